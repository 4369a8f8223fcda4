/-! WHAT BOTH OBJECTS HOLD: the pure state -/
abbrev PS : Type := (Nat → Int) × (Nat) × (Tm) × (Nat) × (Nat → Int) × (Nat → Int) × (Int) × (Int) × (Int) × (Int) × (Int) × (Nat) × (Nat → Int) × (Nat → Int) × (Sq) × (Sq) × (Rat) × (Rat) × (Rat) × (Rat) × (Nat) × (Nat → Int) × (Nat) × (Int) × (Int) × (Int) × (Int) × (Int)
abbrev PS.mk (T : Nat → Int) (n : Nat) (M : Tm) (gn : Nat) (go : Nat → Int) (gl : Nat → Int) (al : Int) (ab : Int) (ll : Int) (lr : Int) (wk : Int) (vn : Nat) (vo : Nat → Int) (vl : Nat → Int) (L : Sq) (R : Sq) (eL : Rat) (fL : Rat) (eR : Rat) (fR : Rat) (ch : Nat) (tk : Nat → Int) (ks : Nat) (lm : Int) (cC : Int) (cF : Int) (vC : Int) (vF : Int) : PS := (T, n, M, gn, go, gl, al, ab, ll, lr, wk, vn, vo, vl, L, R, eL, fL, eR, fR, ch, tk, ks, lm, cC, cF, vC, vF)
abbrev PS.T (s : PS) : Nat → Int := s.1
abbrev PS.n (s : PS) : Nat := s.2.1
abbrev PS.M (s : PS) : Tm := s.2.2.1
abbrev PS.gn (s : PS) : Nat := s.2.2.2.1
abbrev PS.go (s : PS) : Nat → Int := s.2.2.2.2.1
abbrev PS.gl (s : PS) : Nat → Int := s.2.2.2.2.2.1
abbrev PS.al (s : PS) : Int := s.2.2.2.2.2.2.1
abbrev PS.ab (s : PS) : Int := s.2.2.2.2.2.2.2.1
abbrev PS.ll (s : PS) : Int := s.2.2.2.2.2.2.2.2.1
abbrev PS.lr (s : PS) : Int := s.2.2.2.2.2.2.2.2.2.1
abbrev PS.wk (s : PS) : Int := s.2.2.2.2.2.2.2.2.2.2.1
abbrev PS.vn (s : PS) : Nat := s.2.2.2.2.2.2.2.2.2.2.2.1
abbrev PS.vo (s : PS) : Nat → Int := s.2.2.2.2.2.2.2.2.2.2.2.2.1
abbrev PS.vl (s : PS) : Nat → Int := s.2.2.2.2.2.2.2.2.2.2.2.2.2.1
abbrev PS.L (s : PS) : Sq := s.2.2.2.2.2.2.2.2.2.2.2.2.2.2.1
abbrev PS.R (s : PS) : Sq := s.2.2.2.2.2.2.2.2.2.2.2.2.2.2.2.1
abbrev PS.eL (s : PS) : Rat := s.2.2.2.2.2.2.2.2.2.2.2.2.2.2.2.2.1
abbrev PS.fL (s : PS) : Rat := s.2.2.2.2.2.2.2.2.2.2.2.2.2.2.2.2.2.1
abbrev PS.eR (s : PS) : Rat := s.2.2.2.2.2.2.2.2.2.2.2.2.2.2.2.2.2.2.1
abbrev PS.fR (s : PS) : Rat := s.2.2.2.2.2.2.2.2.2.2.2.2.2.2.2.2.2.2.2.1
abbrev PS.ch (s : PS) : Nat := s.2.2.2.2.2.2.2.2.2.2.2.2.2.2.2.2.2.2.2.2.1
abbrev PS.tk (s : PS) : Nat → Int := s.2.2.2.2.2.2.2.2.2.2.2.2.2.2.2.2.2.2.2.2.2.1
abbrev PS.ks (s : PS) : Nat := s.2.2.2.2.2.2.2.2.2.2.2.2.2.2.2.2.2.2.2.2.2.2.1
abbrev PS.lm (s : PS) : Int := s.2.2.2.2.2.2.2.2.2.2.2.2.2.2.2.2.2.2.2.2.2.2.2.1
abbrev PS.cC (s : PS) : Int := s.2.2.2.2.2.2.2.2.2.2.2.2.2.2.2.2.2.2.2.2.2.2.2.2.1
abbrev PS.cF (s : PS) : Int := s.2.2.2.2.2.2.2.2.2.2.2.2.2.2.2.2.2.2.2.2.2.2.2.2.2.1
abbrev PS.vC (s : PS) : Int := s.2.2.2.2.2.2.2.2.2.2.2.2.2.2.2.2.2.2.2.2.2.2.2.2.2.2.1
abbrev PS.vF (s : PS) : Int := s.2.2.2.2.2.2.2.2.2.2.2.2.2.2.2.2.2.2.2.2.2.2.2.2.2.2.2
theorem PS_T {T : Nat → Int} {n : Nat} {M : Tm} {gn : Nat} {go : Nat → Int} {gl : Nat → Int} {al : Int} {ab : Int} {ll : Int} {lr : Int} {wk : Int} {vn : Nat} {vo : Nat → Int} {vl : Nat → Int} {L : Sq} {R : Sq} {eL : Rat} {fL : Rat} {eR : Rat} {fR : Rat} {ch : Nat} {tk : Nat → Int} {ks : Nat} {lm : Int} {cC : Int} {cF : Int} {vC : Int} {vF : Int} : (PS.mk T n M gn go gl al ab ll lr wk vn vo vl L R eL fL eR fR ch tk ks lm cC cF vC vF).T = T := rfl
theorem PS_n {T : Nat → Int} {n : Nat} {M : Tm} {gn : Nat} {go : Nat → Int} {gl : Nat → Int} {al : Int} {ab : Int} {ll : Int} {lr : Int} {wk : Int} {vn : Nat} {vo : Nat → Int} {vl : Nat → Int} {L : Sq} {R : Sq} {eL : Rat} {fL : Rat} {eR : Rat} {fR : Rat} {ch : Nat} {tk : Nat → Int} {ks : Nat} {lm : Int} {cC : Int} {cF : Int} {vC : Int} {vF : Int} : (PS.mk T n M gn go gl al ab ll lr wk vn vo vl L R eL fL eR fR ch tk ks lm cC cF vC vF).n = n := rfl
theorem PS_M {T : Nat → Int} {n : Nat} {M : Tm} {gn : Nat} {go : Nat → Int} {gl : Nat → Int} {al : Int} {ab : Int} {ll : Int} {lr : Int} {wk : Int} {vn : Nat} {vo : Nat → Int} {vl : Nat → Int} {L : Sq} {R : Sq} {eL : Rat} {fL : Rat} {eR : Rat} {fR : Rat} {ch : Nat} {tk : Nat → Int} {ks : Nat} {lm : Int} {cC : Int} {cF : Int} {vC : Int} {vF : Int} : (PS.mk T n M gn go gl al ab ll lr wk vn vo vl L R eL fL eR fR ch tk ks lm cC cF vC vF).M = M := rfl
theorem PS_gn {T : Nat → Int} {n : Nat} {M : Tm} {gn : Nat} {go : Nat → Int} {gl : Nat → Int} {al : Int} {ab : Int} {ll : Int} {lr : Int} {wk : Int} {vn : Nat} {vo : Nat → Int} {vl : Nat → Int} {L : Sq} {R : Sq} {eL : Rat} {fL : Rat} {eR : Rat} {fR : Rat} {ch : Nat} {tk : Nat → Int} {ks : Nat} {lm : Int} {cC : Int} {cF : Int} {vC : Int} {vF : Int} : (PS.mk T n M gn go gl al ab ll lr wk vn vo vl L R eL fL eR fR ch tk ks lm cC cF vC vF).gn = gn := rfl
theorem PS_go {T : Nat → Int} {n : Nat} {M : Tm} {gn : Nat} {go : Nat → Int} {gl : Nat → Int} {al : Int} {ab : Int} {ll : Int} {lr : Int} {wk : Int} {vn : Nat} {vo : Nat → Int} {vl : Nat → Int} {L : Sq} {R : Sq} {eL : Rat} {fL : Rat} {eR : Rat} {fR : Rat} {ch : Nat} {tk : Nat → Int} {ks : Nat} {lm : Int} {cC : Int} {cF : Int} {vC : Int} {vF : Int} : (PS.mk T n M gn go gl al ab ll lr wk vn vo vl L R eL fL eR fR ch tk ks lm cC cF vC vF).go = go := rfl
theorem PS_gl {T : Nat → Int} {n : Nat} {M : Tm} {gn : Nat} {go : Nat → Int} {gl : Nat → Int} {al : Int} {ab : Int} {ll : Int} {lr : Int} {wk : Int} {vn : Nat} {vo : Nat → Int} {vl : Nat → Int} {L : Sq} {R : Sq} {eL : Rat} {fL : Rat} {eR : Rat} {fR : Rat} {ch : Nat} {tk : Nat → Int} {ks : Nat} {lm : Int} {cC : Int} {cF : Int} {vC : Int} {vF : Int} : (PS.mk T n M gn go gl al ab ll lr wk vn vo vl L R eL fL eR fR ch tk ks lm cC cF vC vF).gl = gl := rfl
theorem PS_al {T : Nat → Int} {n : Nat} {M : Tm} {gn : Nat} {go : Nat → Int} {gl : Nat → Int} {al : Int} {ab : Int} {ll : Int} {lr : Int} {wk : Int} {vn : Nat} {vo : Nat → Int} {vl : Nat → Int} {L : Sq} {R : Sq} {eL : Rat} {fL : Rat} {eR : Rat} {fR : Rat} {ch : Nat} {tk : Nat → Int} {ks : Nat} {lm : Int} {cC : Int} {cF : Int} {vC : Int} {vF : Int} : (PS.mk T n M gn go gl al ab ll lr wk vn vo vl L R eL fL eR fR ch tk ks lm cC cF vC vF).al = al := rfl
theorem PS_ab {T : Nat → Int} {n : Nat} {M : Tm} {gn : Nat} {go : Nat → Int} {gl : Nat → Int} {al : Int} {ab : Int} {ll : Int} {lr : Int} {wk : Int} {vn : Nat} {vo : Nat → Int} {vl : Nat → Int} {L : Sq} {R : Sq} {eL : Rat} {fL : Rat} {eR : Rat} {fR : Rat} {ch : Nat} {tk : Nat → Int} {ks : Nat} {lm : Int} {cC : Int} {cF : Int} {vC : Int} {vF : Int} : (PS.mk T n M gn go gl al ab ll lr wk vn vo vl L R eL fL eR fR ch tk ks lm cC cF vC vF).ab = ab := rfl
theorem PS_ll {T : Nat → Int} {n : Nat} {M : Tm} {gn : Nat} {go : Nat → Int} {gl : Nat → Int} {al : Int} {ab : Int} {ll : Int} {lr : Int} {wk : Int} {vn : Nat} {vo : Nat → Int} {vl : Nat → Int} {L : Sq} {R : Sq} {eL : Rat} {fL : Rat} {eR : Rat} {fR : Rat} {ch : Nat} {tk : Nat → Int} {ks : Nat} {lm : Int} {cC : Int} {cF : Int} {vC : Int} {vF : Int} : (PS.mk T n M gn go gl al ab ll lr wk vn vo vl L R eL fL eR fR ch tk ks lm cC cF vC vF).ll = ll := rfl
theorem PS_lr {T : Nat → Int} {n : Nat} {M : Tm} {gn : Nat} {go : Nat → Int} {gl : Nat → Int} {al : Int} {ab : Int} {ll : Int} {lr : Int} {wk : Int} {vn : Nat} {vo : Nat → Int} {vl : Nat → Int} {L : Sq} {R : Sq} {eL : Rat} {fL : Rat} {eR : Rat} {fR : Rat} {ch : Nat} {tk : Nat → Int} {ks : Nat} {lm : Int} {cC : Int} {cF : Int} {vC : Int} {vF : Int} : (PS.mk T n M gn go gl al ab ll lr wk vn vo vl L R eL fL eR fR ch tk ks lm cC cF vC vF).lr = lr := rfl
theorem PS_wk {T : Nat → Int} {n : Nat} {M : Tm} {gn : Nat} {go : Nat → Int} {gl : Nat → Int} {al : Int} {ab : Int} {ll : Int} {lr : Int} {wk : Int} {vn : Nat} {vo : Nat → Int} {vl : Nat → Int} {L : Sq} {R : Sq} {eL : Rat} {fL : Rat} {eR : Rat} {fR : Rat} {ch : Nat} {tk : Nat → Int} {ks : Nat} {lm : Int} {cC : Int} {cF : Int} {vC : Int} {vF : Int} : (PS.mk T n M gn go gl al ab ll lr wk vn vo vl L R eL fL eR fR ch tk ks lm cC cF vC vF).wk = wk := rfl
theorem PS_vn {T : Nat → Int} {n : Nat} {M : Tm} {gn : Nat} {go : Nat → Int} {gl : Nat → Int} {al : Int} {ab : Int} {ll : Int} {lr : Int} {wk : Int} {vn : Nat} {vo : Nat → Int} {vl : Nat → Int} {L : Sq} {R : Sq} {eL : Rat} {fL : Rat} {eR : Rat} {fR : Rat} {ch : Nat} {tk : Nat → Int} {ks : Nat} {lm : Int} {cC : Int} {cF : Int} {vC : Int} {vF : Int} : (PS.mk T n M gn go gl al ab ll lr wk vn vo vl L R eL fL eR fR ch tk ks lm cC cF vC vF).vn = vn := rfl
theorem PS_vo {T : Nat → Int} {n : Nat} {M : Tm} {gn : Nat} {go : Nat → Int} {gl : Nat → Int} {al : Int} {ab : Int} {ll : Int} {lr : Int} {wk : Int} {vn : Nat} {vo : Nat → Int} {vl : Nat → Int} {L : Sq} {R : Sq} {eL : Rat} {fL : Rat} {eR : Rat} {fR : Rat} {ch : Nat} {tk : Nat → Int} {ks : Nat} {lm : Int} {cC : Int} {cF : Int} {vC : Int} {vF : Int} : (PS.mk T n M gn go gl al ab ll lr wk vn vo vl L R eL fL eR fR ch tk ks lm cC cF vC vF).vo = vo := rfl
theorem PS_vl {T : Nat → Int} {n : Nat} {M : Tm} {gn : Nat} {go : Nat → Int} {gl : Nat → Int} {al : Int} {ab : Int} {ll : Int} {lr : Int} {wk : Int} {vn : Nat} {vo : Nat → Int} {vl : Nat → Int} {L : Sq} {R : Sq} {eL : Rat} {fL : Rat} {eR : Rat} {fR : Rat} {ch : Nat} {tk : Nat → Int} {ks : Nat} {lm : Int} {cC : Int} {cF : Int} {vC : Int} {vF : Int} : (PS.mk T n M gn go gl al ab ll lr wk vn vo vl L R eL fL eR fR ch tk ks lm cC cF vC vF).vl = vl := rfl
theorem PS_L {T : Nat → Int} {n : Nat} {M : Tm} {gn : Nat} {go : Nat → Int} {gl : Nat → Int} {al : Int} {ab : Int} {ll : Int} {lr : Int} {wk : Int} {vn : Nat} {vo : Nat → Int} {vl : Nat → Int} {L : Sq} {R : Sq} {eL : Rat} {fL : Rat} {eR : Rat} {fR : Rat} {ch : Nat} {tk : Nat → Int} {ks : Nat} {lm : Int} {cC : Int} {cF : Int} {vC : Int} {vF : Int} : (PS.mk T n M gn go gl al ab ll lr wk vn vo vl L R eL fL eR fR ch tk ks lm cC cF vC vF).L = L := rfl
theorem PS_R {T : Nat → Int} {n : Nat} {M : Tm} {gn : Nat} {go : Nat → Int} {gl : Nat → Int} {al : Int} {ab : Int} {ll : Int} {lr : Int} {wk : Int} {vn : Nat} {vo : Nat → Int} {vl : Nat → Int} {L : Sq} {R : Sq} {eL : Rat} {fL : Rat} {eR : Rat} {fR : Rat} {ch : Nat} {tk : Nat → Int} {ks : Nat} {lm : Int} {cC : Int} {cF : Int} {vC : Int} {vF : Int} : (PS.mk T n M gn go gl al ab ll lr wk vn vo vl L R eL fL eR fR ch tk ks lm cC cF vC vF).R = R := rfl
theorem PS_eL {T : Nat → Int} {n : Nat} {M : Tm} {gn : Nat} {go : Nat → Int} {gl : Nat → Int} {al : Int} {ab : Int} {ll : Int} {lr : Int} {wk : Int} {vn : Nat} {vo : Nat → Int} {vl : Nat → Int} {L : Sq} {R : Sq} {eL : Rat} {fL : Rat} {eR : Rat} {fR : Rat} {ch : Nat} {tk : Nat → Int} {ks : Nat} {lm : Int} {cC : Int} {cF : Int} {vC : Int} {vF : Int} : (PS.mk T n M gn go gl al ab ll lr wk vn vo vl L R eL fL eR fR ch tk ks lm cC cF vC vF).eL = eL := rfl
theorem PS_fL {T : Nat → Int} {n : Nat} {M : Tm} {gn : Nat} {go : Nat → Int} {gl : Nat → Int} {al : Int} {ab : Int} {ll : Int} {lr : Int} {wk : Int} {vn : Nat} {vo : Nat → Int} {vl : Nat → Int} {L : Sq} {R : Sq} {eL : Rat} {fL : Rat} {eR : Rat} {fR : Rat} {ch : Nat} {tk : Nat → Int} {ks : Nat} {lm : Int} {cC : Int} {cF : Int} {vC : Int} {vF : Int} : (PS.mk T n M gn go gl al ab ll lr wk vn vo vl L R eL fL eR fR ch tk ks lm cC cF vC vF).fL = fL := rfl
theorem PS_eR {T : Nat → Int} {n : Nat} {M : Tm} {gn : Nat} {go : Nat → Int} {gl : Nat → Int} {al : Int} {ab : Int} {ll : Int} {lr : Int} {wk : Int} {vn : Nat} {vo : Nat → Int} {vl : Nat → Int} {L : Sq} {R : Sq} {eL : Rat} {fL : Rat} {eR : Rat} {fR : Rat} {ch : Nat} {tk : Nat → Int} {ks : Nat} {lm : Int} {cC : Int} {cF : Int} {vC : Int} {vF : Int} : (PS.mk T n M gn go gl al ab ll lr wk vn vo vl L R eL fL eR fR ch tk ks lm cC cF vC vF).eR = eR := rfl
theorem PS_fR {T : Nat → Int} {n : Nat} {M : Tm} {gn : Nat} {go : Nat → Int} {gl : Nat → Int} {al : Int} {ab : Int} {ll : Int} {lr : Int} {wk : Int} {vn : Nat} {vo : Nat → Int} {vl : Nat → Int} {L : Sq} {R : Sq} {eL : Rat} {fL : Rat} {eR : Rat} {fR : Rat} {ch : Nat} {tk : Nat → Int} {ks : Nat} {lm : Int} {cC : Int} {cF : Int} {vC : Int} {vF : Int} : (PS.mk T n M gn go gl al ab ll lr wk vn vo vl L R eL fL eR fR ch tk ks lm cC cF vC vF).fR = fR := rfl
theorem PS_ch {T : Nat → Int} {n : Nat} {M : Tm} {gn : Nat} {go : Nat → Int} {gl : Nat → Int} {al : Int} {ab : Int} {ll : Int} {lr : Int} {wk : Int} {vn : Nat} {vo : Nat → Int} {vl : Nat → Int} {L : Sq} {R : Sq} {eL : Rat} {fL : Rat} {eR : Rat} {fR : Rat} {ch : Nat} {tk : Nat → Int} {ks : Nat} {lm : Int} {cC : Int} {cF : Int} {vC : Int} {vF : Int} : (PS.mk T n M gn go gl al ab ll lr wk vn vo vl L R eL fL eR fR ch tk ks lm cC cF vC vF).ch = ch := rfl
theorem PS_tk {T : Nat → Int} {n : Nat} {M : Tm} {gn : Nat} {go : Nat → Int} {gl : Nat → Int} {al : Int} {ab : Int} {ll : Int} {lr : Int} {wk : Int} {vn : Nat} {vo : Nat → Int} {vl : Nat → Int} {L : Sq} {R : Sq} {eL : Rat} {fL : Rat} {eR : Rat} {fR : Rat} {ch : Nat} {tk : Nat → Int} {ks : Nat} {lm : Int} {cC : Int} {cF : Int} {vC : Int} {vF : Int} : (PS.mk T n M gn go gl al ab ll lr wk vn vo vl L R eL fL eR fR ch tk ks lm cC cF vC vF).tk = tk := rfl
theorem PS_ks {T : Nat → Int} {n : Nat} {M : Tm} {gn : Nat} {go : Nat → Int} {gl : Nat → Int} {al : Int} {ab : Int} {ll : Int} {lr : Int} {wk : Int} {vn : Nat} {vo : Nat → Int} {vl : Nat → Int} {L : Sq} {R : Sq} {eL : Rat} {fL : Rat} {eR : Rat} {fR : Rat} {ch : Nat} {tk : Nat → Int} {ks : Nat} {lm : Int} {cC : Int} {cF : Int} {vC : Int} {vF : Int} : (PS.mk T n M gn go gl al ab ll lr wk vn vo vl L R eL fL eR fR ch tk ks lm cC cF vC vF).ks = ks := rfl
theorem PS_lm {T : Nat → Int} {n : Nat} {M : Tm} {gn : Nat} {go : Nat → Int} {gl : Nat → Int} {al : Int} {ab : Int} {ll : Int} {lr : Int} {wk : Int} {vn : Nat} {vo : Nat → Int} {vl : Nat → Int} {L : Sq} {R : Sq} {eL : Rat} {fL : Rat} {eR : Rat} {fR : Rat} {ch : Nat} {tk : Nat → Int} {ks : Nat} {lm : Int} {cC : Int} {cF : Int} {vC : Int} {vF : Int} : (PS.mk T n M gn go gl al ab ll lr wk vn vo vl L R eL fL eR fR ch tk ks lm cC cF vC vF).lm = lm := rfl
theorem PS_cC {T : Nat → Int} {n : Nat} {M : Tm} {gn : Nat} {go : Nat → Int} {gl : Nat → Int} {al : Int} {ab : Int} {ll : Int} {lr : Int} {wk : Int} {vn : Nat} {vo : Nat → Int} {vl : Nat → Int} {L : Sq} {R : Sq} {eL : Rat} {fL : Rat} {eR : Rat} {fR : Rat} {ch : Nat} {tk : Nat → Int} {ks : Nat} {lm : Int} {cC : Int} {cF : Int} {vC : Int} {vF : Int} : (PS.mk T n M gn go gl al ab ll lr wk vn vo vl L R eL fL eR fR ch tk ks lm cC cF vC vF).cC = cC := rfl
theorem PS_cF {T : Nat → Int} {n : Nat} {M : Tm} {gn : Nat} {go : Nat → Int} {gl : Nat → Int} {al : Int} {ab : Int} {ll : Int} {lr : Int} {wk : Int} {vn : Nat} {vo : Nat → Int} {vl : Nat → Int} {L : Sq} {R : Sq} {eL : Rat} {fL : Rat} {eR : Rat} {fR : Rat} {ch : Nat} {tk : Nat → Int} {ks : Nat} {lm : Int} {cC : Int} {cF : Int} {vC : Int} {vF : Int} : (PS.mk T n M gn go gl al ab ll lr wk vn vo vl L R eL fL eR fR ch tk ks lm cC cF vC vF).cF = cF := rfl
theorem PS_vC {T : Nat → Int} {n : Nat} {M : Tm} {gn : Nat} {go : Nat → Int} {gl : Nat → Int} {al : Int} {ab : Int} {ll : Int} {lr : Int} {wk : Int} {vn : Nat} {vo : Nat → Int} {vl : Nat → Int} {L : Sq} {R : Sq} {eL : Rat} {fL : Rat} {eR : Rat} {fR : Rat} {ch : Nat} {tk : Nat → Int} {ks : Nat} {lm : Int} {cC : Int} {cF : Int} {vC : Int} {vF : Int} : (PS.mk T n M gn go gl al ab ll lr wk vn vo vl L R eL fL eR fR ch tk ks lm cC cF vC vF).vC = vC := rfl
theorem PS_vF {T : Nat → Int} {n : Nat} {M : Tm} {gn : Nat} {go : Nat → Int} {gl : Nat → Int} {al : Int} {ab : Int} {ll : Int} {lr : Int} {wk : Int} {vn : Nat} {vo : Nat → Int} {vl : Nat → Int} {L : Sq} {R : Sq} {eL : Rat} {fL : Rat} {eR : Rat} {fR : Rat} {ch : Nat} {tk : Nat → Int} {ks : Nat} {lm : Int} {cC : Int} {cF : Int} {vC : Int} {vF : Int} : (PS.mk T n M gn go gl al ab ll lr wk vn vo vl L R eL fL eR fR ch tk ks lm cC cF vC vF).vF = vF := rfl
/-- a side's cut, its fill -/
def sdC (n : Nat) (off lev : Nat → Int) (sg : Int) (s : Sq) (eo : Rat) : Rat := arT n off sg s eo (fun i x y => pcC (gapQ n off lev sg s i x) (gapQ n off lev sg s i y) (y - x)) s.N 1
def sdF (n : Nat) (off lev : Nat → Int) (sg : Int) (s : Sq) (eo : Rat) : Rat := arT n off sg s eo (fun i x y => pcF (gapQ n off lev sg s i x) (gapQ n off lev sg s i y) (y - x)) s.N 1
def areaC (z : PS) : Rat := sdC z.vn z.vo z.vl (-1) z.L z.eL + sdC z.vn z.vo z.vl 1 z.R z.eR
def areaF (z : PS) : Rat := sdF z.vn z.vo z.vl (-1) z.L z.eL + sdF z.vn z.vo z.vl 1 z.R z.eR
def VS (z : PS) : Prop :=
  (okS z.T z.n) ∧
  (GT z.M.kd z.M.fi z.M.se z.M.ta z.M.en z.M.od z.M.sz) ∧
  (okG z.gn z.go z.gl) ∧
  ((-100000 ≤ z.al ∧ z.al ≤ 100000) ∧ -150 ≤ z.ab ∧ z.ab ≤ 150) ∧
  ((0 ≤ z.ll ∧ z.ll ≤ 1000000) ∧ 0 ≤ z.lr ∧ z.lr ≤ 1000000) ∧
  (z.wk = 0 ∨ z.wk = 1) ∧
  (z.ch ≤ 24) ∧
  (z.wk = 1 → okG z.vn z.vo z.vl ∧ sdH z.vn z.vo z.vl (-1) z.L z.eL z.fL ∧ sdH z.vn z.vo z.vl 1 z.R z.eR z.fR) ∧
  (z.ks ≤ 20) ∧
  (0 ≤ z.lm ∧ z.lm ≤ 100000) ∧
  ((0 ≤ z.cC ∧ z.cC ≤ 3600000000000000000000000) ∧ 0 ≤ z.cF ∧ z.cF ≤ 3600000000000000000000000) ∧
  ((0 ≤ z.vC ∧ z.vC ≤ z.ks * 1000000000000000000000000000000000) ∧ 0 ≤ z.vF ∧ z.vF ≤ z.ks * 1000000000000000000000000000000000)
theorem VS.txt {z : PS} (zz : VS z) : okS z.T z.n := zz.1
theorem VS.tm {z : PS} (zz : VS z) : GT z.M.kd z.M.fi z.M.se z.M.ta z.M.en z.M.od z.M.sz := zz.2.1
theorem VS.gr {z : PS} (zz : VS z) : okG z.gn z.go z.gl := zz.2.2.1
theorem VS.ax {z : PS} (zz : VS z) : (-100000 ≤ z.al ∧ z.al ≤ 100000) ∧ -150 ≤ z.ab ∧ z.ab ≤ 150 := zz.2.2.2.1
theorem VS.la {z : PS} (zz : VS z) : (0 ≤ z.ll ∧ z.ll ≤ 1000000) ∧ 0 ≤ z.lr ∧ z.lr ≤ 1000000 := zz.2.2.2.2.1
theorem VS.wkb {z : PS} (zz : VS z) : z.wk = 0 ∨ z.wk = 1 := zz.2.2.2.2.2.1
theorem VS.chb {z : PS} (zz : VS z) : z.ch ≤ 24 := zz.2.2.2.2.2.2.1
theorem VS.sec {z : PS} (zz : VS z) : z.wk = 1 → okG z.vn z.vo z.vl ∧ sdH z.vn z.vo z.vl (-1) z.L z.eL z.fL ∧ sdH z.vn z.vo z.vl 1 z.R z.eR z.fR := zz.2.2.2.2.2.2.2.1
theorem VS.ksb {z : PS} (zz : VS z) : z.ks ≤ 20 := zz.2.2.2.2.2.2.2.2.1
theorem VS.lmb {z : PS} (zz : VS z) : 0 ≤ z.lm ∧ z.lm ≤ 100000 := zz.2.2.2.2.2.2.2.2.2.1
theorem VS.cb {z : PS} (zz : VS z) : (0 ≤ z.cC ∧ z.cC ≤ 3600000000000000000000000) ∧ 0 ≤ z.cF ∧ z.cF ≤ 3600000000000000000000000 := zz.2.2.2.2.2.2.2.2.2.2.1
theorem VS.vb {z : PS} (zz : VS z) : (0 ≤ z.vC ∧ z.vC ≤ z.ks * 1000000000000000000000000000000000) ∧ 0 ≤ z.vF ∧ z.vF ≤ z.ks * 1000000000000000000000000000000000 := zz.2.2.2.2.2.2.2.2.2.2.2
theorem GT.od144 {kd fi se ta en : Nat → Int} {od k : Nat} (g : GT kd fi se ta en od k) : od ≤ 144 := by
  have : ∀ t, t < k → en t ≤ 24 * (t + 1) := by
    intro t
    induction t with
    | zero => intro h; have := g.mono 0 h; unfold stOf at this; simp at this; omega
    | succ t ih =>
      intro h
      have a := ih (by omega)
      have b := g.mono (t + 1) h
      unfold stOf at b
      rw [if_neg (by omega), Nat.add_sub_cancel] at b
      omega
  have k6 := g.k6
  rcases g.last with e | e
  · have := g.od0 e; omega
  · by_cases k0 : k = 0
    · have := g.od0 k0; omega
    · have := this (k - 1) (by omega)
      omega
/-- cells 0 to 18 -/
def CH (h : am_H) (z : PS) (tp dr into p op : Nat) (wr : Int) (wt : Nat → Int) (Md : Tm) : Prop := ((tp = 1 ∧ dr = 7) ∨ (tp = 7 ∧ dr = 1)) ∧
  h[0]? = some (.inr (0, [.ref 13, .ref tp, .ref dr, .ref 16, .ref 19, .int (iI z.al), .int (iI z.ab), .int (iI z.ll), .int (iI z.lr), .ref 22, .ref 45, .ref 79, .ref 95, .ref 131, .ref 145, .int (iI z.ks), .int (iI z.lm), .ref 159])) ∧
  isT h tp z.M ∧ isT h dr Md ∧ isR h 13 into z.T z.n p wr wt op ∧ isG h 16 z.gn z.go z.gl
/-- cells 19 to 163 -/
def CG (h0 h : am_H) (z : PS) (ws as : Nat) (st ix pl : Int) (S : Nat → Sq) (F : Nat → Rat) (W : Nat → Int) : Prop :=
  GW h0 h z.vn z.vo z.vl z.wk z.ch z.tk S ws st as ix pl F W ∧ (S 46 = z.L ∧ S 62 = z.R) ∧ (F 52 = z.eL ∧ F 57 = z.fL ∧ F 68 = z.eR ∧ F 73 = z.fR) ∧ (st = 0 ∨ (st = 1 ∧ F 96 = areaC z ∧ F 101 = areaF z ∧ cuB 36 (F 96) ∧ cuB 36 (F 101))) ∧ (W 132 = z.cC ∧ W 146 = z.cF) ∧ F 140 = z.vC ∧ F 154 = z.vF
def CR (h : am_H) (z : PS) : Prop := (∃ (tp dr into p op : Nat) (wr : Int) (wt : Nat → Int) (Md : Tm), CH h z tp dr into p op wr wt Md) ∧ ∃ (ws as : Nat) (st ix pl : Int) (S : Nat → Sq) (F : Nat → Rat) (W : Nat → Int), CG h h z ws as st ix pl S F W
def tellP (q : Rat) (fl part : Int) : Int := if part < -1 then -1 else if part = -1 then q.num.sign * fl else (if part % 2 = 0 then (q.num.natAbs : Int) else (q.den : Int)) / 1000000000 ^ (2 * (part / 2).toNat) % 1000000000000000000
def missP (part : Int) : Int := if part = -1 then -2 else -1
section STA
variable {X : Nat × (Nat → Int32)} {h0 h h' : am_H} {z : PS} {tp dr into p op ws as : Nat} {wr st ix pl : Int} {wt : Nat → Int} {Md : Tm} {S : Nat → Sq} {F : Nat → Rat} {W : Nat → Int}
theorem isR.same {b t : Nat} {T : Nat → Int} {n lo up : Nat} (w : isR h b t T n p wr wt op) (q : same lo up h h') (c : lo ≤ b ∧ b + 2 ≤ up) : isR h' b t T n p wr wt op :=
  ⟨by rw [q b (by omega) (by omega)]; exact w.1, by rw [q (b + 1) (by omega) (by omega)]; exact w.2.1, by rw [q (b + 2) (by omega) (by omega)]; exact w.2.2⟩
theorem CH.same (w : CH h z tp dr into p op wr wt Md) (q : same 0 18 h h') : CH h' z tp dr into p op wr wt Md := by
  obtain ⟨a, b, c, d, e, f⟩ := w
  exact ⟨a, by rw [q 0 (by omega) (by omega)]; exact b, c.same q (by omega), d.same q (by omega), e.same q (by omega), f.same q (by omega)⟩
theorem GW.base {gn : Nat} {go gl tk : Nat → Int} {wk ch : Int} (w : GW h0 h gn go gl wk ch tk S ws st as ix pl F W) : GW h h gn go gl wk ch tk S ws st as ix pl F W := ⟨frI_rf _ _, w.2⟩
theorem GW.low {gn : Nat} {go gl tk : Nat → Int} {wk ch : Int} (w : GW h0 h gn go gl wk ch tk S ws st as ix pl F W) : same 0 18 h0 h := w.fr.same (lo := 0) (hi := 18) (fun p hp => by simp at hp; subst hp; simp only; omega)
theorem GW.out {gn : Nat} {go gl tk : Nat → Int} {wk ch : Int} (w : GW h0 h gn go gl wk ch tk S ws st as ix pl F W) : frI [(0, 163)] h0 h := frI_wk w.fr (fun p hp => ⟨(0, 163), by simp, by simp at hp; subst hp; simp⟩)
/-- cells 19 to 163 stay when those below are set -/
theorem CG.keep (w : CG h h z ws as st ix pl S F W) (f : frI [(0, 18)] h h') : CG h' h' z ws as st ix pl S F W := by
  obtain ⟨g, rest⟩ := w
  have s : same 19 163 h h' := f.same (fun p hp => by simp at hp; subst hp; simp only; omega)
  obtain ⟨fr, gr, ar, se, sl, sr, wa, aa, e1, e2, ww, ff⟩ := g
  refine ⟨⟨frI_rf _ _, gr.same s (by omega), ar.same s (by omega), ⟨by rw [s 45 (by omega) (by omega)]; exact se.1, by rw [s 78 (by omega) (by omega)]; exact se.2⟩, sl.same s (by omega), sr.same s (by omega), by rw [s 79 (by omega) (by omega)]; exact wa, by rw [s 95 (by omega) (by omega)]; exact aa, by rw [s 131 (by omega) (by omega)]; exact e1, by rw [s 145 (by omega) (by omega)]; exact e2, fun p hp => ?_, fun p hp => ?_⟩, rest⟩
  · have := LW_ok p hp
    exact (ww p hp).same s (by omega) (by omega)
  · have := LF_ok p hp
    exact (ff p hp).same s (by omega)
theorem frI_18 {lo up : Nat} (f : frI [(lo, up)] h h') (c : up ≤ 18) : frI [(0, 18)] h h' := frI_wk f (fun p hp => ⟨(0, 18), by simp, by simp at hp; subst hp; simp; omega⟩)
theorem frI_163 {lo up : Nat} (f : frI [(lo, up)] h h') (c : up ≤ 163) : frI [(0, 163)] h h' := frI_wk f (fun p hp => ⟨(0, 163), by simp, by simp at hp; subst hp; simp; omega⟩)
theorem wp_missing {d : Nat} {part : Int} (hp : -2147483648 ≤ part ∧ part ≤ 2147483647) : am_c X (d + 1) 107 [.int (iI part)] h (fun r h' => r = some (.long (lI (missP part))) ∧ h' = h) := by
  unfold missP
  refine am_c.of (Nat.le_of_ble_eq_true rfl) ?_
  show am_w _ _ _ (_, [_], _, _) _
  refine wr_iload_n rfl rfl rfl ?_
  refine wr_iconst rfl rfl ?_
  refine wr_icmp_ne rfl rfl rfl (by omega) (by omega) (fun c2 => ?_) (fun c2 => ?_)
  ·
    refine wr_ldc2 (z := -1) rfl rfl rfl (by decide) ?_
    refine wr_lret rfl rfl ?_
    refine ⟨eqL ?_, rfl⟩
    first | rw [if_pos (by omega)] | rw [if_neg (by omega)]
  ·
    refine wr_ldc2 (z := -2) rfl rfl rfl (by decide) ?_
    refine wr_goto rfl rfl ?_
    refine wr_lret rfl rfl ?_
    refine ⟨eqL ?_, rfl⟩
    first | rw [if_pos (by omega)] | rw [if_neg (by omega)]
theorem wp_tell {d f cap : Nat} {q : Rat} {fl part : Int} (hF : isF h f cap q) (hcap : cap ≤ 1000000) (hp : -2147483648 ≤ part ∧ part ≤ 2147483647) (hfl : fl = 1 ∨ fl = -1) : am_c X (d + 2) 111 [.ref f, .int (iI fl), .int (iI part)] h (fun r h' => r = some (.long (lI (tellP q fl part))) ∧ h' = h) := by
  obtain ⟨f0, f1, f2⟩ := id hF
  obtain ⟨g1, n1, ca, -⟩ := id f1
  obtain ⟨g2, n2, cb, -⟩ := id f2
  have si : -1 ≤ q.num.sign ∧ q.num.sign ≤ 1 := by
    rcases Int.lt_trichotomy q.num 0 with c | c | c
    · rw [Int.sign_eq_neg_one_of_neg c]; decide
    · rw [c]; decide
    · rw [Int.sign_eq_one_of_pos c]; decide
  have sf : -1 ≤ q.num.sign * fl ∧ q.num.sign * fl ≤ 1 := by rcases hfl with rfl | rfl <;> omega
  unfold tellP
  refine am_c.of (Nat.le_of_ble_eq_true rfl) ?_
  show am_w _ _ _ (_, [_, _, _], _, _) _
  by_cases a1 : part < -1
  · rw [if_pos a1]
    refine wr_iload_n rfl rfl rfl ?_
    refine wr_iconst rfl rfl ?_
    refine wr_icmp_ge rfl rfl rfl (by omega) (by omega) (fun c2 => by exfalso; omega) (fun c2 => ?_)
    refine wr_ldc2 (z := -1) rfl rfl rfl (by decide) ?_
    refine wr_lret rfl rfl ?_
    exact ⟨rfl, rfl⟩
  rw [if_neg a1]
  by_cases a2 : part = -1
  · rw [if_pos a2]
    refine wr_iload_n rfl rfl rfl ?_
    refine wr_iconst rfl rfl ?_
    refine wr_icmp_ge rfl rfl rfl (by omega) (by omega) (fun c2 => ?_) (fun c2 => by exfalso; omega)
    refine wr_iload_n rfl rfl rfl ?_
    refine wr_iconst rfl rfl ?_
    refine wr_icmp_ne rfl rfl rfl (by omega) (by omega) (fun c11 => by exfalso; omega) (fun c11 => ?_)
    refine wr_aload_n rfl rfl rfl ?_
    refine wr_get (ci := 8) (f := 0) rfl rfl rfl (by assumption) rfl ?_
    refine wr_iload_n rfl rfl rfl ?_
    refine wr_imul rfl rfl ?_
    refine wr_i2l rfl rfl (by omega) ?_
    refine wr_lret rfl rfl ?_
    exact ⟨rfl, rfl⟩
  rw [if_neg a2]
  have pd : 0 ≤ part / 2 ∧ part / 2 ≤ 1073741823 := by omega
  by_cases a3 : part % 2 = 0
  · rw [if_pos a3]
    refine wr_iload_n rfl rfl rfl ?_
    refine wr_iconst rfl rfl ?_
    refine wr_icmp_ge rfl rfl rfl (by omega) (by omega) (fun c2 => ?_) (fun c2 => by exfalso; omega)
    refine wr_iload_n rfl rfl rfl ?_
    refine wr_iconst rfl rfl ?_
    refine wr_icmp_ne rfl rfl rfl (by omega) (by omega) (fun c11 => ?_) (fun c11 => by exfalso; omega)
    refine wr_iload_n rfl rfl rfl ?_
    refine wr_iconst rfl rfl ?_
    refine wr_iremN rfl rfl (by omega) (by omega) (by omega) (by omega) ?_
    refine wr_if_ne rfl rfl rfl (by omega) (fun c25 => by exfalso; omega) (fun c25 => ?_)
    refine wr_aload_n rfl rfl rfl ?_
    refine wr_get (ci := 8) (f := 1) rfl rfl rfl (by assumption) rfl ?_
    refine wr_goto rfl rfl ?_
    refine wr_iload_n rfl rfl rfl ?_
    refine wr_iconst rfl rfl ?_
    refine wr_idivN rfl rfl (by omega) (by omega) (by omega) (by omega) ?_
    refine wr_cv1 (k' := 88) (ci := 5) rfl rfl rfl rfl (by assumption) rfl rfl (wp_eighteen f1 hcap pd) (fun r h2 q => ?_)
    obtain ⟨rfl, hh⟩ := q
    rw [hh]
    clear hh h2
    dsimp only [Option.toList, List.cons_append, List.nil_append]
    refine wr_lret rfl rfl ?_
    exact ⟨rfl, rfl⟩
  · rw [if_neg a3]
    refine wr_iload_n rfl rfl rfl ?_
    refine wr_iconst rfl rfl ?_
    refine wr_icmp_ge rfl rfl rfl (by omega) (by omega) (fun c2 => ?_) (fun c2 => by exfalso; omega)
    refine wr_iload_n rfl rfl rfl ?_
    refine wr_iconst rfl rfl ?_
    refine wr_icmp_ne rfl rfl rfl (by omega) (by omega) (fun c11 => ?_) (fun c11 => by exfalso; omega)
    refine wr_iload_n rfl rfl rfl ?_
    refine wr_iconst rfl rfl ?_
    refine wr_iremN rfl rfl (by omega) (by omega) (by omega) (by omega) ?_
    refine wr_if_ne rfl rfl rfl (by omega) (fun c25 => ?_) (fun c25 => by exfalso; omega)
    refine wr_aload_n rfl rfl rfl ?_
    refine wr_get (ci := 8) (f := 2) rfl rfl rfl (by assumption) rfl ?_
    refine wr_iload_n rfl rfl rfl ?_
    refine wr_iconst rfl rfl ?_
    refine wr_idivN rfl rfl (by omega) (by omega) (by omega) (by omega) ?_
    refine wr_cv1 (k' := 88) (ci := 5) rfl rfl rfl rfl (by assumption) rfl rfl (wp_eighteen f2 hcap pd) (fun r h2 q => ?_)
    obtain ⟨rfl, hh⟩ := q
    rw [hh]
    clear hh h2
    dsimp only [Option.toList, List.cons_append, List.nil_append]
    refine wr_lret rfl rfl ?_
    exact ⟨rfl, rfl⟩
theorem cr_unit {d : Nat} {u : Int} (C : CR h z) (V : VS z) (hu : -2147483648 ≤ u ∧ u ≤ 2147483647) : am_c X (d + 2) 14 [.ref 0, .int (iI u)] h (fun r h' => ((32 ≤ u ∧ u ≤ 126 ∧ z.n < 400) ∧ r = some (.int (iI 1)) ∧ CR h' (PS.mk (updI z.T z.n u) (z.n + 1) z.M z.gn z.go z.gl z.al z.ab z.ll z.lr z.wk z.vn z.vo z.vl z.L z.R z.eL z.fL z.eR z.fR z.ch z.tk z.ks z.lm z.cC z.cF z.vC z.vF) ∧ frI [(0, 163)] h h') ∨ (¬ (32 ≤ u ∧ u ≤ 126 ∧ z.n < 400) ∧ r = some (.int (iI 0)) ∧ CR h' z ∧ frI [(0, 163)] h h')) := by
  have C' := C
  obtain ⟨⟨tp, dr, into, p, op, wr, wt, Md, a, b, c, e, f, g⟩, ws, as, st, ix, pl, S, F, W, G⟩ := C
  have c13 := f.1
  refine am_c.of (Nat.le_of_ble_eq_true rfl) ?_
  show am_w _ _ _ (_, [_, _], _, _) _
  refine wr_aload_n rfl rfl rfl ?_
  refine wr_get (ci := 0) (f := 0) rfl rfl rfl (by assumption) rfl ?_
  refine wr_iload_n rfl rfl rfl ?_
  refine wr_cv1 (k' := 15) (ci := 2) rfl rfl rfl rfl (by assumption) rfl rfl (wp_rcollect f V.txt.1 hu) (fun r h2 q => ?_)
  rcases q with ⟨q1, rfl, q3, q4⟩ | ⟨q1, rfl, q3⟩
  · dsimp only [Option.toList, List.cons_append, List.nil_append]
    refine wr_zret rfl rfl (by decide) ?_
    have s12 : same 0 12 h h2 := q4.same (fun p hp => by simp at hp; subst hp; simp only; omega)
    have s16 : same 16 18 h h2 := q4.same (fun p hp => by simp at hp; subst hp; simp only; omega)
    refine Or.inl ⟨q1, rfl, ⟨⟨tp, dr, into, p, op, wr, wt, Md, a, by rw [s12 0 (by omega) (by omega)]; exact b, c.same s12 (by omega), e.same s12 (by omega), q3, g.same s16 (by omega)⟩, ws, as, st, ix, pl, S, F, W, G.keep (frI_18 q4 (by omega))⟩, frI_163 q4 (by omega)⟩
  · dsimp only [Option.toList, List.cons_append, List.nil_append]
    refine wr_zret rfl rfl (by decide) ?_
    subst q3
    exact Or.inr ⟨q1, rfl, C', frI_rf _ _⟩
theorem cr_clear {d : Nat} (C : CR h z) : am_c X (d + 2) 49 [.ref 0] h (fun r h' => r = none ∧ CR h' (PS.mk z.T z.n z.M (0) z.go z.gl z.al z.ab z.ll z.lr z.wk z.vn z.vo z.vl z.L z.R z.eL z.fL z.eR z.fR z.ch z.tk z.ks z.lm z.cC z.cF z.vC z.vF) ∧ frI [(0, 163)] h h') := by
  have C' := C
  obtain ⟨⟨tp, dr, into, p, op, wr, wt, Md, a, b, c, e, f, g⟩, ws, as, st, ix, pl, S, F, W, G⟩ := C
  have c16 := g.1
  refine am_c.of (Nat.le_of_ble_eq_true rfl) ?_
  show am_w _ _ _ (_, [_], _, _) _
  refine wr_aload_n rfl rfl rfl ?_
  refine wr_get (ci := 0) (f := 3) rfl rfl rfl (by assumption) rfl ?_
  refine wr_cv0 (k' := 50) (ci := 3) rfl rfl rfl rfl (by assumption) rfl rfl (wp_gempty g) (fun r h2 q => ?_)
  obtain ⟨rfl, q1, q2⟩ := q
  dsimp only [Option.toList, List.nil_append]
  refine wr_vret rfl rfl ?_
  have f1 : frI [(16, 18)] h h2 := frI_fr q2 (fun i hi => ⟨(16, 18), by simp, by simp at hi; subst hi; simp⟩)
  have s : same 0 15 h h2 := f1.same (fun p hp => by simp at hp; subst hp; simp only; omega)
  exact ⟨rfl, ⟨⟨tp, dr, into, p, op, wr, wt, Md, a, by rw [s 0 (by omega) (by omega)]; exact b, c.same s (by omega), e.same s (by omega), f.same s (by omega), q1⟩, ws, as, st, ix, pl, S, F, W, G.keep (frI_18 f1 (by omega))⟩, frI_163 f1 (by omega)⟩
theorem cr_ground {d : Nat} {o l : Int} (C : CR h z) (V : VS z) (ho : -2147483648 ≤ o ∧ o ≤ 2147483647) (hl : -2147483648 ≤ l ∧ l ≤ 2147483647) : am_c X (d + 3) 46 [.ref 0, .int (iI o), .int (iI l)] h (fun r h' => (gAdd z.gn z.go o l ∧ r = some (.int (iI 1)) ∧ CR h' (PS.mk z.T z.n z.M (z.gn + 1) (updI z.go z.gn o) (updI z.gl z.gn l) z.al z.ab z.ll z.lr z.wk z.vn z.vo z.vl z.L z.R z.eL z.fL z.eR z.fR z.ch z.tk z.ks z.lm z.cC z.cF z.vC z.vF) ∧ frI [(0, 163)] h h') ∨ (¬ gAdd z.gn z.go o l ∧ r = some (.int (iI 0)) ∧ CR h' z ∧ frI [(0, 163)] h h')) := by
  have C' := C
  obtain ⟨⟨tp, dr, into, p, op, wr, wt, Md, a, b, c, e, f, g⟩, ws, as, st, ix, pl, S, F, W, G⟩ := C
  have c16 := g.1
  refine am_c.of (Nat.le_of_ble_eq_true rfl) ?_
  show am_w _ _ _ (_, [_, _, _], _, _) _
  refine wr_aload_n rfl rfl rfl ?_
  refine wr_get (ci := 0) (f := 3) rfl rfl rfl (by assumption) rfl ?_
  refine wr_iload_n rfl rfl rfl ?_
  refine wr_iload_n rfl rfl rfl ?_
  refine wr_cv2 (k' := 47) (ci := 3) rfl rfl rfl rfl (by assumption) rfl rfl (wp_gadd g V.gr ho hl) (fun r h2 q => ?_)
  rcases q with ⟨q0, rfl, q1, q2⟩ | ⟨q0, rfl, q1⟩
  · dsimp only [Option.toList, List.cons_append, List.nil_append]
    refine wr_zret rfl rfl (by decide) ?_
    have f1 : frI [(16, 18)] h h2 := frI_fr q2 (fun i hi => ⟨(16, 18), by simp, by simp at hi; simp; omega⟩)
    have s : same 0 15 h h2 := f1.same (fun p hp => by simp at hp; subst hp; simp only; omega)
    exact Or.inl ⟨q0, rfl, ⟨⟨tp, dr, into, p, op, wr, wt, Md, a, by rw [s 0 (by omega) (by omega)]; exact b, c.same s (by omega), e.same s (by omega), f.same s (by omega), q1⟩, ws, as, st, ix, pl, S, F, W, G.keep (frI_18 f1 (by omega))⟩, frI_163 f1 (by omega)⟩
  · dsimp only [Option.toList, List.cons_append, List.nil_append]
    refine wr_zret rfl rfl (by decide) ?_
    subst q1
    exact Or.inr ⟨q0, rfl, C', frI_rf _ _⟩
/-- the object's own cell set -/
theorem CR.ob {z' : PS} (C : CR h z) (e0 : h' = h.set 0 (.inr (0, [.ref 13, .ref tp, .ref dr, .ref 16, .ref 19, .int (iI z'.al), .int (iI z'.ab), .int (iI z'.ll), .int (iI z'.lr), .ref 22, .ref 45, .ref 79, .ref 95, .ref 131, .ref 145, .int (iI z'.ks), .int (iI z'.lm), .ref 159]))) (a : (tp = 1 ∧ dr = 7) ∨ (tp = 7 ∧ dr = 1)) (c : isT h tp z'.M) (e : isT h dr Md) (f : isR h 13 into z'.T z'.n p wr wt op) (g : isG h 16 z'.gn z'.go z'.gl) (G : CG h h z' ws as st ix pl S F W) : CR h' z' ∧ frI [(0, 163)] h h' := by
  have f0 : frI [(0, 0)] h h' := e0 ▸ frI_set (by omega)
  have s : same 1 18 h h' := f0.same (fun p hp => by simp at hp; subst hp; simp only; omega)
  have hb : ∃ v, h[0]? = some v := by
    obtain ⟨⟨tp', dr', into', p', op', wr', wt', Md', a', b', -⟩, -⟩ := C
    exact ⟨_, b'⟩
  obtain ⟨v, hv⟩ := hb
  exact ⟨⟨⟨tp, dr, into, p, op, wr, wt, Md, a, by rw [e0]; exact am_set_s hv, c.same s (by omega), e.same s (by omega), f.same s (by omega), g.same s (by omega)⟩, ws, as, st, ix, pl, S, F, W, G.keep (frI_18 f0 (by omega))⟩, frI_163 f0 (by omega)⟩
theorem cr_axis {d : Nat} {x y : Int} (C : CR h z) (hx : -2147483648 ≤ x ∧ x ≤ 2147483647) (hy : -2147483648 ≤ y ∧ y ≤ 2147483647) : am_c X (d + 2) 51 [.ref 0, .int (iI x), .int (iI y)] h (fun r h' => (((-100000 ≤ x ∧ x ≤ 100000) ∧ -150 ≤ y ∧ y ≤ 150) ∧ r = some (.int (iI 1)) ∧ CR h' (PS.mk z.T z.n z.M z.gn z.go z.gl (x) (y) z.ll z.lr z.wk z.vn z.vo z.vl z.L z.R z.eL z.fL z.eR z.fR z.ch z.tk z.ks z.lm z.cC z.cF z.vC z.vF) ∧ frI [(0, 163)] h h') ∨ (¬ ((-100000 ≤ x ∧ x ≤ 100000) ∧ -150 ≤ y ∧ y ≤ 150) ∧ r = some (.int (iI 0)) ∧ CR h' z ∧ frI [(0, 163)] h h')) := by
  have C' := C
  obtain ⟨⟨tp, dr, into, p, op, wr, wt, Md, a, b, c, e, f, g⟩, ws, as, st, ix, pl, S, F, W, G⟩ := C
  have b1 := b2_in (-100000 ≤ x ∧ x ≤ 100000)
  have b3 := b2_in (-150 ≤ y ∧ y ≤ 150)
  refine am_c.of (Nat.le_of_ble_eq_true rfl) ?_
  show am_w _ _ _ (_, [_, _, _], _, _) _
  by_cases p1 : -100000 ≤ x ∧ x ≤ 100000
  · have t1 := b2_t p1
    by_cases p2 : -150 ≤ y ∧ y ≤ 150
    · have t2 := b2_t p2
      refine wr_iload_n rfl rfl rfl ?_
      refine wr_ldc (z := -100000) rfl rfl rfl (by decide) ?_
      refine wr_ldc (z := 100000) rfl rfl rfl (by decide) ?_
      refine wr_cs3 (k' := 48) rfl rfl rfl rfl rfl (wp_within hx (by decide) (by decide)) (fun r h2 q => ?_)
      obtain ⟨rfl, hh⟩ := q
      rw [hh]
      clear hh h2
      dsimp only [Option.toList, List.cons_append, List.nil_append]
      refine wr_if_eq rfl rfl rfl (by omega) (fun c8 => by exfalso; omega) (fun c8 => ?_)
      refine wr_iload_n rfl rfl rfl ?_
      refine wr_sipush rfl rfl (by decide) ?_
      refine wr_sipush rfl rfl (by decide) ?_
      refine wr_cs3 (k' := 48) rfl rfl rfl rfl rfl (wp_within hy (by decide) (by decide)) (fun r h2 q => ?_)
      obtain ⟨rfl, hh⟩ := q
      rw [hh]
      clear hh h2
      dsimp only [Option.toList, List.cons_append, List.nil_append]
      refine wr_if_ne rfl rfl rfl (by omega) (fun c21 => ?_) (fun c21 => by exfalso; omega)
      refine wr_aload_n rfl rfl rfl ?_
      refine wr_iload_n rfl rfl rfl ?_
      refine wr_putI (ci := 0) (f := 5) (fs' := [_, _, _, _, _, _, _, _, _, _, _, _, _, _, _, _, _, _]) rfl rfl rfl (by assumption) rfl rfl rfl (fun h1 e1 => ?_)
      have B := CR.ob (z' := (PS.mk z.T z.n z.M z.gn z.go z.gl (x) z.ab z.ll z.lr z.wk z.vn z.vo z.vl z.L z.R z.eL z.fL z.eR z.fR z.ch z.tk z.ks z.lm z.cC z.cF z.vC z.vF)) C' e1 a c e f g G
      obtain ⟨⟨⟨tp, dr, into, p, op, wr, wt, Md, a, b, c, e, f, g⟩, ws, as, st, ix, pl, S, F, W, G⟩, f1⟩ := id B
      refine wr_aload_n rfl rfl rfl ?_
      refine wr_iload_n rfl rfl rfl ?_
      refine wr_putI (ci := 0) (f := 6) (fs' := [_, _, _, _, _, _, _, _, _, _, _, _, _, _, _, _, _, _]) rfl rfl rfl (by assumption) rfl rfl rfl (fun h1 e1 => ?_)
      have B2 := CR.ob (z' := (PS.mk z.T z.n z.M z.gn z.go z.gl (x) (y) z.ll z.lr z.wk z.vn z.vo z.vl z.L z.R z.eL z.fL z.eR z.fR z.ch z.tk z.ks z.lm z.cC z.cF z.vC z.vF)) B.1 e1 a c e f g G
      refine wr_iconst rfl rfl ?_
      refine wr_zret rfl rfl (by decide) ?_
      exact Or.inl ⟨⟨p1, p2⟩, rfl, B2.1, frI_tr B.2 B2.2⟩
    · have t2 := b2_f p2
      refine wr_iload_n rfl rfl rfl ?_
      refine wr_ldc (z := -100000) rfl rfl rfl (by decide) ?_
      refine wr_ldc (z := 100000) rfl rfl rfl (by decide) ?_
      refine wr_cs3 (k' := 48) rfl rfl rfl rfl rfl (wp_within hx (by decide) (by decide)) (fun r h2 q => ?_)
      obtain ⟨rfl, hh⟩ := q
      rw [hh]
      clear hh h2
      dsimp only [Option.toList, List.cons_append, List.nil_append]
      refine wr_if_eq rfl rfl rfl (by omega) (fun c8 => by exfalso; omega) (fun c8 => ?_)
      refine wr_iload_n rfl rfl rfl ?_
      refine wr_sipush rfl rfl (by decide) ?_
      refine wr_sipush rfl rfl (by decide) ?_
      refine wr_cs3 (k' := 48) rfl rfl rfl rfl rfl (wp_within hy (by decide) (by decide)) (fun r h2 q => ?_)
      obtain ⟨rfl, hh⟩ := q
      rw [hh]
      clear hh h2
      dsimp only [Option.toList, List.cons_append, List.nil_append]
      refine wr_if_ne rfl rfl rfl (by omega) (fun c21 => by exfalso; omega) (fun c21 => ?_)
      refine wr_iconst rfl rfl ?_
      refine wr_zret rfl rfl (by decide) ?_
      exact Or.inr ⟨fun q => p2 q.2, rfl, C', frI_rf _ _⟩
  · have t1 := b2_f p1
    refine wr_iload_n rfl rfl rfl ?_
    refine wr_ldc (z := -100000) rfl rfl rfl (by decide) ?_
    refine wr_ldc (z := 100000) rfl rfl rfl (by decide) ?_
    refine wr_cs3 (k' := 48) rfl rfl rfl rfl rfl (wp_within hx (by decide) (by decide)) (fun r h2 q => ?_)
    obtain ⟨rfl, hh⟩ := q
    rw [hh]
    clear hh h2
    dsimp only [Option.toList, List.cons_append, List.nil_append]
    refine wr_if_eq rfl rfl rfl (by omega) (fun c8 => ?_) (fun c8 => by exfalso; omega)
    refine wr_iconst rfl rfl ?_
    refine wr_zret rfl rfl (by decide) ?_
    exact Or.inr ⟨fun q => p1 q.1, rfl, C', frI_rf _ _⟩
theorem cr_land {d : Nat} {x y : Int} (C : CR h z) (hx : -2147483648 ≤ x ∧ x ≤ 2147483647) (hy : -2147483648 ≤ y ∧ y ≤ 2147483647) : am_c X (d + 2) 52 [.ref 0, .int (iI x), .int (iI y)] h (fun r h' => (((x = -1 ∨ x = 1) ∧ 0 ≤ y ∧ y ≤ 1000000) ∧ r = some (.int (iI 1)) ∧ CR h' (if x = -1 then (PS.mk z.T z.n z.M z.gn z.go z.gl z.al z.ab (y) z.lr z.wk z.vn z.vo z.vl z.L z.R z.eL z.fL z.eR z.fR z.ch z.tk z.ks z.lm z.cC z.cF z.vC z.vF) else (PS.mk z.T z.n z.M z.gn z.go z.gl z.al z.ab z.ll (y) z.wk z.vn z.vo z.vl z.L z.R z.eL z.fL z.eR z.fR z.ch z.tk z.ks z.lm z.cC z.cF z.vC z.vF)) ∧ frI [(0, 163)] h h') ∨ (¬ ((x = -1 ∨ x = 1) ∧ 0 ≤ y ∧ y ≤ 1000000) ∧ r = some (.int (iI 0)) ∧ CR h' z ∧ frI [(0, 163)] h h')) := by
  have C' := C
  obtain ⟨⟨tp, dr, into, p, op, wr, wt, Md, a, b, c, e, f, g⟩, ws, as, st, ix, pl, S, F, W, G⟩ := C
  have b1 := b2_in (x = -1 ∨ x = 1)
  have b3 := b2_in (0 ≤ y ∧ y ≤ 1000000)
  refine am_c.of (Nat.le_of_ble_eq_true rfl) ?_
  show am_w _ _ _ (_, [_, _, _], _, _) _
  by_cases p1 : x = -1 ∨ x = 1
  · have t1 := b2_t p1
    by_cases p2 : 0 ≤ y ∧ y ≤ 1000000
    · have t2 := b2_t p2
      by_cases p3 : x = -1
      · rw [if_pos p3]
        refine wr_iload_n rfl rfl rfl ?_
        refine wr_cs1 (k' := 53) rfl rfl rfl rfl rfl (wp_isSide hx) (fun r h2 q => ?_)
        obtain ⟨rfl, hh⟩ := q
        rw [hh]
        clear hh h2
        dsimp only [Option.toList, List.cons_append, List.nil_append]
        refine wr_if_eq rfl rfl rfl (by omega) (fun c4 => by exfalso; omega) (fun c4 => ?_)
        refine wr_iload_n rfl rfl rfl ?_
        refine wr_iconst rfl rfl ?_
        refine wr_ldc (z := 1000000) rfl rfl rfl (by decide) ?_
        refine wr_cs3 (k' := 48) rfl rfl rfl rfl rfl (wp_within hy (by decide) (by decide)) (fun r h2 q => ?_)
        obtain ⟨rfl, hh⟩ := q
        rw [hh]
        clear hh h2
        dsimp only [Option.toList, List.cons_append, List.nil_append]
        refine wr_if_ne rfl rfl rfl (by omega) (fun c14 => ?_) (fun c14 => by exfalso; omega)
        refine wr_iload_n rfl rfl rfl ?_
        refine wr_iconst rfl rfl ?_
        refine wr_icmp_ne rfl rfl rfl (by omega) (by omega) (fun c21 => by exfalso; omega) (fun c21 => ?_)
        refine wr_aload_n rfl rfl rfl ?_
        refine wr_iload_n rfl rfl rfl ?_
        refine wr_putI (ci := 0) (f := 7) (fs' := [_, _, _, _, _, _, _, _, _, _, _, _, _, _, _, _, _, _]) rfl rfl rfl (by assumption) rfl rfl rfl (fun h1 e1 => ?_)
        have B := CR.ob (z' := (PS.mk z.T z.n z.M z.gn z.go z.gl z.al z.ab (y) z.lr z.wk z.vn z.vo z.vl z.L z.R z.eL z.fL z.eR z.fR z.ch z.tk z.ks z.lm z.cC z.cF z.vC z.vF)) C' e1 a c e f g G
        refine wr_goto rfl rfl ?_
        refine wr_iconst rfl rfl ?_
        refine wr_zret rfl rfl (by decide) ?_
        exact Or.inl ⟨⟨p1, p2⟩, rfl, B⟩
      · rw [if_neg p3]
        refine wr_iload_n rfl rfl rfl ?_
        refine wr_cs1 (k' := 53) rfl rfl rfl rfl rfl (wp_isSide hx) (fun r h2 q => ?_)
        obtain ⟨rfl, hh⟩ := q
        rw [hh]
        clear hh h2
        dsimp only [Option.toList, List.cons_append, List.nil_append]
        refine wr_if_eq rfl rfl rfl (by omega) (fun c4 => by exfalso; omega) (fun c4 => ?_)
        refine wr_iload_n rfl rfl rfl ?_
        refine wr_iconst rfl rfl ?_
        refine wr_ldc (z := 1000000) rfl rfl rfl (by decide) ?_
        refine wr_cs3 (k' := 48) rfl rfl rfl rfl rfl (wp_within hy (by decide) (by decide)) (fun r h2 q => ?_)
        obtain ⟨rfl, hh⟩ := q
        rw [hh]
        clear hh h2
        dsimp only [Option.toList, List.cons_append, List.nil_append]
        refine wr_if_ne rfl rfl rfl (by omega) (fun c14 => ?_) (fun c14 => by exfalso; omega)
        refine wr_iload_n rfl rfl rfl ?_
        refine wr_iconst rfl rfl ?_
        refine wr_icmp_ne rfl rfl rfl (by omega) (by omega) (fun c21 => ?_) (fun c21 => by exfalso; omega)
        refine wr_aload_n rfl rfl rfl ?_
        refine wr_iload_n rfl rfl rfl ?_
        refine wr_putI (ci := 0) (f := 8) (fs' := [_, _, _, _, _, _, _, _, _, _, _, _, _, _, _, _, _, _]) rfl rfl rfl (by assumption) rfl rfl rfl (fun h1 e1 => ?_)
        have B := CR.ob (z' := (PS.mk z.T z.n z.M z.gn z.go z.gl z.al z.ab z.ll (y) z.wk z.vn z.vo z.vl z.L z.R z.eL z.fL z.eR z.fR z.ch z.tk z.ks z.lm z.cC z.cF z.vC z.vF)) C' e1 a c e f g G
        refine wr_iconst rfl rfl ?_
        refine wr_zret rfl rfl (by decide) ?_
        exact Or.inl ⟨⟨p1, p2⟩, rfl, B⟩
    · have t2 := b2_f p2
      refine wr_iload_n rfl rfl rfl ?_
      refine wr_cs1 (k' := 53) rfl rfl rfl rfl rfl (wp_isSide hx) (fun r h2 q => ?_)
      obtain ⟨rfl, hh⟩ := q
      rw [hh]
      clear hh h2
      dsimp only [Option.toList, List.cons_append, List.nil_append]
      refine wr_if_eq rfl rfl rfl (by omega) (fun c4 => by exfalso; omega) (fun c4 => ?_)
      refine wr_iload_n rfl rfl rfl ?_
      refine wr_iconst rfl rfl ?_
      refine wr_ldc (z := 1000000) rfl rfl rfl (by decide) ?_
      refine wr_cs3 (k' := 48) rfl rfl rfl rfl rfl (wp_within hy (by decide) (by decide)) (fun r h2 q => ?_)
      obtain ⟨rfl, hh⟩ := q
      rw [hh]
      clear hh h2
      dsimp only [Option.toList, List.cons_append, List.nil_append]
      refine wr_if_ne rfl rfl rfl (by omega) (fun c14 => by exfalso; omega) (fun c14 => ?_)
      refine wr_iconst rfl rfl ?_
      refine wr_zret rfl rfl (by decide) ?_
      exact Or.inr ⟨fun q => p2 q.2, rfl, C', frI_rf _ _⟩
  · have t1 := b2_f p1
    refine wr_iload_n rfl rfl rfl ?_
    refine wr_cs1 (k' := 53) rfl rfl rfl rfl rfl (wp_isSide hx) (fun r h2 q => ?_)
    obtain ⟨rfl, hh⟩ := q
    rw [hh]
    clear hh h2
    dsimp only [Option.toList, List.cons_append, List.nil_append]
    refine wr_if_eq rfl rfl rfl (by omega) (fun c4 => ?_) (fun c4 => by exfalso; omega)
    refine wr_iconst rfl rfl ?_
    refine wr_zret rfl rfl (by decide) ?_
    exact Or.inr ⟨fun q => p1 q.1, rfl, C', frI_rf _ _⟩
theorem cr_condition {d : Nat} {k : Int} (C : CR h z) (V : VS z) (hk : -2147483648 ≤ k ∧ k ≤ 2147483647) : am_c X (d + 2) 119 [.ref 0, .int (iI k)] h (fun r h' => r = some (.int (iI (if 0 ≤ k ∧ k < z.ch then z.tk k.toNat else -1))) ∧ h' = h) := by
  have C' := C
  obtain ⟨⟨tp, dr, into, p, op, wr, wt, Md, a, b, c, e, f, g⟩, ws, as, st, ix, pl, S, F, W, G⟩ := C
  have cs0 := G.1.se.1
  refine am_c.of (Nat.le_of_ble_eq_true rfl) ?_
  show am_w _ _ _ (_, [_, _], _, _) _
  refine wr_aload_n rfl rfl rfl ?_
  refine wr_get (ci := 0) (f := 10) rfl rfl rfl (by assumption) rfl ?_
  refine wr_iload_n rfl rfl rfl ?_
  refine wr_cv1 (k' := 120) (ci := 6) rfl rfl rfl rfl (by assumption) rfl rfl (gw_choiceAt G.1 V.chb hk) (fun r h2 q => ?_)
  obtain ⟨rfl, hh⟩ := q
  rw [hh]
  clear hh h2
  dsimp only [Option.toList, List.cons_append, List.nil_append]
  refine wr_iret rfl rfl ?_
  exact ⟨rfl, rfl⟩
def cornN (z : PS) : Int := if z.wk = 1 then z.L.N + 1 + z.R.N else 0
/-- the side and the index of corner k -/
theorem cr_code {d : Nat} {k : Int} (C : CR h z) (V : VS z) (hk : -2147483648 ≤ k ∧ k ≤ 2147483647) : am_c X (d + 3) 112 [.ref 0, .int (iI k)] h (fun r h' => r = some (.int (iI (if 0 ≤ k ∧ k < cornN z then (if k < z.L.N then z.L.cd (z.L.N - k).toNat else z.R.cd (k - z.L.N).toNat) else -1))) ∧ h' = h) := by
  have C' := C
  obtain ⟨⟨tp, dr, into, p, op, wr, wt, Md, a, b, c, e, f, g⟩, ws, as, st, ix, pl, S, F, W, G⟩ := C
  have cs0 := G.1.se.1
  have cl0 := G.1.sl.1
  have cr0 := G.1.sr.1
  have SL := G.2.1.1
  have SR := G.2.1.2
  have nn : z.wk = 1 → z.L.N ≤ 12 ∧ z.R.N ≤ 12 := fun q => ⟨(V.sec q).2.1.ok.1, (V.sec q).2.2.ok.1⟩
  have cN : -1 ≤ cornN z ∧ cornN z ≤ 25 := by
    unfold cornN
    split
    · have := nn (by assumption); omega
    · omega
  have cq := gw_corners (X := X) (d := d + 1) G.1 V.wkb
  rw [SL, SR] at cq
  refine am_c.of (Nat.le_of_ble_eq_true rfl) ?_
  show am_w _ _ _ (_, [_, _], _, _) _
  by_cases k0 : 0 ≤ k ∧ k < cornN z
  · rw [if_pos k0]
    have w1 : z.wk = 1 := Decidable.byContradiction fun q => by unfold cornN at k0; rw [if_neg q] at k0; omega
    have nb := nn w1
    have kc : k < z.L.N + 1 + z.R.N := by unfold cornN at k0; rw [if_pos w1] at k0; exact k0.2
    have so := gw_sideOf (X := X) (d := d + 1) G.1 hk (by rw [SL]; exact nb.1)
    have io := gw_indexOf (X := X) (d := d + 1) G.1 hk (by rw [SL]; exact nb.1)
    rw [SL] at so io
    by_cases k1 : k < z.L.N
    · rw [if_pos k1] at so io ⊢
      refine wr_iload_n rfl rfl rfl ?_
      refine wr_if_lt rfl rfl rfl (by omega) (fun c1 => by exfalso; omega) (fun c1 => ?_)
      refine wr_iload_n rfl rfl rfl ?_
      refine wr_aload_n rfl rfl rfl ?_
      refine wr_get (ci := 0) (f := 10) rfl rfl rfl (by assumption) rfl ?_
      refine wr_cv0 (k' := 105) (ci := 6) rfl rfl rfl rfl (by assumption) rfl rfl (cq) (fun r h2 q => ?_)
      obtain ⟨rfl, hh⟩ := q
      rw [hh]
      clear hh h2
      dsimp only [Option.toList, List.cons_append, List.nil_append]
      rw [show (if z.wk = 1 then (z.L.N : Int) + 1 + z.R.N else 0) = cornN z from rfl]
      refine wr_icmp_lt rfl rfl rfl (by omega) (by omega) (fun c12 => ?_) (fun c12 => by exfalso; omega)
      refine wr_aload_n rfl rfl rfl ?_
      refine wr_get (ci := 0) (f := 10) rfl rfl rfl (by assumption) rfl ?_
      refine wr_iload_n rfl rfl rfl ?_
      refine wr_cv1 (k' := 108) (ci := 6) rfl rfl rfl rfl (by assumption) rfl rfl (so) (fun r h2 q => ?_)
      obtain ⟨rfl, hh⟩ := q
      rw [hh]
      clear hh h2
      dsimp only [Option.toList, List.cons_append, List.nil_append]
      refine wr_aload_n rfl rfl rfl ?_
      refine wr_get (ci := 0) (f := 10) rfl rfl rfl (by assumption) rfl ?_
      refine wr_iload_n rfl rfl rfl ?_
      refine wr_cv1 (k' := 109) (ci := 6) rfl rfl rfl rfl (by assumption) rfl rfl (io) (fun r h2 q => ?_)
      obtain ⟨rfl, hh⟩ := q
      rw [hh]
      clear hh h2
      dsimp only [Option.toList, List.cons_append, List.nil_append]
      rw [show (z.L.N : Int) - k = (((z.L.N : Int) - k).toNat : Int) by omega]
      refine wr_cv1 (k' := 113) (ci := 7) rfl rfl rfl rfl (by assumption) rfl rfl (wp_scode (G.1.sS (b := 46) (Or.inl rfl)) (by omega)) (fun r h2 q => ?_)
      obtain ⟨rfl, hh⟩ := q
      rw [hh]
      clear hh h2
      dsimp only [Option.toList, List.cons_append, List.nil_append]
      rw [SL]
      refine wr_iret rfl rfl ?_
      exact ⟨rfl, rfl⟩
    · rw [if_neg k1] at so io ⊢
      refine wr_iload_n rfl rfl rfl ?_
      refine wr_if_lt rfl rfl rfl (by omega) (fun c1 => by exfalso; omega) (fun c1 => ?_)
      refine wr_iload_n rfl rfl rfl ?_
      refine wr_aload_n rfl rfl rfl ?_
      refine wr_get (ci := 0) (f := 10) rfl rfl rfl (by assumption) rfl ?_
      refine wr_cv0 (k' := 105) (ci := 6) rfl rfl rfl rfl (by assumption) rfl rfl (cq) (fun r h2 q => ?_)
      obtain ⟨rfl, hh⟩ := q
      rw [hh]
      clear hh h2
      dsimp only [Option.toList, List.cons_append, List.nil_append]
      rw [show (if z.wk = 1 then (z.L.N : Int) + 1 + z.R.N else 0) = cornN z from rfl]
      refine wr_icmp_lt rfl rfl rfl (by omega) (by omega) (fun c12 => ?_) (fun c12 => by exfalso; omega)
      refine wr_aload_n rfl rfl rfl ?_
      refine wr_get (ci := 0) (f := 10) rfl rfl rfl (by assumption) rfl ?_
      refine wr_iload_n rfl rfl rfl ?_
      refine wr_cv1 (k' := 108) (ci := 6) rfl rfl rfl rfl (by assumption) rfl rfl (so) (fun r h2 q => ?_)
      obtain ⟨rfl, hh⟩ := q
      rw [hh]
      clear hh h2
      dsimp only [Option.toList, List.cons_append, List.nil_append]
      refine wr_aload_n rfl rfl rfl ?_
      refine wr_get (ci := 0) (f := 10) rfl rfl rfl (by assumption) rfl ?_
      refine wr_iload_n rfl rfl rfl ?_
      refine wr_cv1 (k' := 109) (ci := 6) rfl rfl rfl rfl (by assumption) rfl rfl (io) (fun r h2 q => ?_)
      obtain ⟨rfl, hh⟩ := q
      rw [hh]
      clear hh h2
      dsimp only [Option.toList, List.cons_append, List.nil_append]
      rw [show k - (z.L.N : Int) = ((k - (z.L.N : Int)).toNat : Int) by omega]
      refine wr_cv1 (k' := 113) (ci := 7) rfl rfl rfl rfl (by assumption) rfl rfl (wp_scode (G.1.sS (b := 62) (Or.inr rfl)) (by omega)) (fun r h2 q => ?_)
      obtain ⟨rfl, hh⟩ := q
      rw [hh]
      clear hh h2
      dsimp only [Option.toList, List.cons_append, List.nil_append]
      rw [SR]
      refine wr_iret rfl rfl ?_
      exact ⟨rfl, rfl⟩
  · rw [if_neg k0]
    by_cases k1 : 0 ≤ k
    ·
      refine wr_iload_n rfl rfl rfl ?_
      refine wr_if_lt rfl rfl rfl (by omega) (fun c1 => by exfalso; omega) (fun c1 => ?_)
      refine wr_iload_n rfl rfl rfl ?_
      refine wr_aload_n rfl rfl rfl ?_
      refine wr_get (ci := 0) (f := 10) rfl rfl rfl (by assumption) rfl ?_
      refine wr_cv0 (k' := 105) (ci := 6) rfl rfl rfl rfl (by assumption) rfl rfl (cq) (fun r h2 q => ?_)
      obtain ⟨rfl, hh⟩ := q
      rw [hh]
      clear hh h2
      dsimp only [Option.toList, List.cons_append, List.nil_append]
      rw [show (if z.wk = 1 then (z.L.N : Int) + 1 + z.R.N else 0) = cornN z from rfl]
      refine wr_icmp_lt rfl rfl rfl (by omega) (by omega) (fun c12 => by exfalso; omega) (fun c12 => ?_)
      refine wr_iconst rfl rfl ?_
      refine wr_iret rfl rfl ?_
      exact ⟨rfl, rfl⟩
    ·
      refine wr_iload_n rfl rfl rfl ?_
      refine wr_if_lt rfl rfl rfl (by omega) (fun c1 => ?_) (fun c1 => by exfalso; omega)
      refine wr_iconst rfl rfl ?_
      refine wr_iret rfl rfl ?_
      exact ⟨rfl, rfl⟩
theorem cr_ended {d : Nat} {k : Int} (C : CR h z) (V : VS z) (hk : -2147483648 ≤ k ∧ k ≤ 2147483647) : am_c X (d + 2) 114 [.ref 0, .int (iI k)] h (fun r h' => r = some (.int (iI (b2 (z.wk = 1 ∧ ((k = -1 ∧ z.L.e = 1) ∨ (k = 1 ∧ z.R.e = 1)))))) ∧ h' = h) := by
  have C' := C
  obtain ⟨⟨tp, dr, into, p, op, wr, wt, Md, a, b, c, e, f, g⟩, ws, as, st, ix, pl, S, F, W, G⟩ := C
  have cs0 := G.1.se.1
  have cl0 := G.1.sl.1
  have cr0 := G.1.sr.1
  rw [G.2.1.1] at cl0
  rw [G.2.1.2] at cr0
  have wkb := V.wkb
  have bi := b2_in (k = -1 ∨ k = 1)
  refine am_c.of (Nat.le_of_ble_eq_true rfl) ?_
  show am_w _ _ _ (_, [_, _], _, _) _
  by_cases w1 : z.wk = 1
  · have se := V.sec w1
    have eL := se.2.1.ok.2.1
    have eR := se.2.2.ok.2.1
    by_cases s1 : k = -1 ∨ k = 1
    · have t1 := b2_t s1
      have sb := gw_sideBy (X := X) (d := d) G.1 s1
      by_cases k1 : k = -1
      · rw [if_pos k1] at sb
        by_cases e1 : z.L.e = 1
        · rw [b2_t (show z.wk = 1 ∧ ((k = -1 ∧ z.L.e = 1) ∨ (k = 1 ∧ z.R.e = 1)) from ⟨w1, Or.inl ⟨k1, e1⟩⟩)]
          refine wr_aload_n rfl rfl rfl ?_
          refine wr_get (ci := 0) (f := 10) rfl rfl rfl (by assumption) rfl ?_
          refine wr_get (ci := 6) (f := 2) rfl rfl rfl (by assumption) rfl ?_
          refine wr_if_eq rfl rfl rfl (by omega) (fun c7 => by exfalso; omega) (fun c7 => ?_)
          refine wr_iload_n rfl rfl rfl ?_
          refine wr_cs1 (k' := 53) rfl rfl rfl rfl rfl (wp_isSide hk) (fun r h2 q => ?_)
          obtain ⟨rfl, hh⟩ := q
          rw [hh]
          clear hh h2
          dsimp only [Option.toList, List.cons_append, List.nil_append]
          refine wr_if_eq rfl rfl rfl (by omega) (fun c14 => by exfalso; omega) (fun c14 => ?_)
          refine wr_aload_n rfl rfl rfl ?_
          refine wr_get (ci := 0) (f := 10) rfl rfl rfl (by assumption) rfl ?_
          refine wr_iload_n rfl rfl rfl ?_
          refine wr_cv1 (k' := 115) (ci := 6) rfl rfl rfl rfl (by assumption) rfl rfl (sb) (fun r h2 q => ?_)
          obtain ⟨rfl, hh⟩ := q
          rw [hh]
          clear hh h2
          dsimp only [Option.toList, List.cons_append, List.nil_append]
          refine wr_get (ci := 7) (f := 7) rfl rfl rfl (by assumption) rfl ?_
          refine wr_if_eq rfl rfl rfl (by omega) (fun c28 => by exfalso; omega) (fun c28 => ?_)
          refine wr_iconst rfl rfl ?_
          refine wr_goto rfl rfl ?_
          refine wr_zret rfl rfl (by decide) ?_
          exact ⟨rfl, rfl⟩
        · rw [b2_f (show ¬ (z.wk = 1 ∧ ((k = -1 ∧ z.L.e = 1) ∨ (k = 1 ∧ z.R.e = 1))) from fun q => by omega)]
          refine wr_aload_n rfl rfl rfl ?_
          refine wr_get (ci := 0) (f := 10) rfl rfl rfl (by assumption) rfl ?_
          refine wr_get (ci := 6) (f := 2) rfl rfl rfl (by assumption) rfl ?_
          refine wr_if_eq rfl rfl rfl (by omega) (fun c7 => by exfalso; omega) (fun c7 => ?_)
          refine wr_iload_n rfl rfl rfl ?_
          refine wr_cs1 (k' := 53) rfl rfl rfl rfl rfl (wp_isSide hk) (fun r h2 q => ?_)
          obtain ⟨rfl, hh⟩ := q
          rw [hh]
          clear hh h2
          dsimp only [Option.toList, List.cons_append, List.nil_append]
          refine wr_if_eq rfl rfl rfl (by omega) (fun c14 => by exfalso; omega) (fun c14 => ?_)
          refine wr_aload_n rfl rfl rfl ?_
          refine wr_get (ci := 0) (f := 10) rfl rfl rfl (by assumption) rfl ?_
          refine wr_iload_n rfl rfl rfl ?_
          refine wr_cv1 (k' := 115) (ci := 6) rfl rfl rfl rfl (by assumption) rfl rfl (sb) (fun r h2 q => ?_)
          obtain ⟨rfl, hh⟩ := q
          rw [hh]
          clear hh h2
          dsimp only [Option.toList, List.cons_append, List.nil_append]
          refine wr_get (ci := 7) (f := 7) rfl rfl rfl (by assumption) rfl ?_
          refine wr_if_eq rfl rfl rfl (by omega) (fun c28 => ?_) (fun c28 => by exfalso; omega)
          refine wr_iconst rfl rfl ?_
          refine wr_zret rfl rfl (by decide) ?_
          exact ⟨rfl, rfl⟩
      · rw [if_neg k1] at sb
        by_cases e1 : z.R.e = 1
        · rw [b2_t (show z.wk = 1 ∧ ((k = -1 ∧ z.L.e = 1) ∨ (k = 1 ∧ z.R.e = 1)) from ⟨w1, Or.inr ⟨by omega, e1⟩⟩)]
          refine wr_aload_n rfl rfl rfl ?_
          refine wr_get (ci := 0) (f := 10) rfl rfl rfl (by assumption) rfl ?_
          refine wr_get (ci := 6) (f := 2) rfl rfl rfl (by assumption) rfl ?_
          refine wr_if_eq rfl rfl rfl (by omega) (fun c7 => by exfalso; omega) (fun c7 => ?_)
          refine wr_iload_n rfl rfl rfl ?_
          refine wr_cs1 (k' := 53) rfl rfl rfl rfl rfl (wp_isSide hk) (fun r h2 q => ?_)
          obtain ⟨rfl, hh⟩ := q
          rw [hh]
          clear hh h2
          dsimp only [Option.toList, List.cons_append, List.nil_append]
          refine wr_if_eq rfl rfl rfl (by omega) (fun c14 => by exfalso; omega) (fun c14 => ?_)
          refine wr_aload_n rfl rfl rfl ?_
          refine wr_get (ci := 0) (f := 10) rfl rfl rfl (by assumption) rfl ?_
          refine wr_iload_n rfl rfl rfl ?_
          refine wr_cv1 (k' := 115) (ci := 6) rfl rfl rfl rfl (by assumption) rfl rfl (sb) (fun r h2 q => ?_)
          obtain ⟨rfl, hh⟩ := q
          rw [hh]
          clear hh h2
          dsimp only [Option.toList, List.cons_append, List.nil_append]
          refine wr_get (ci := 7) (f := 7) rfl rfl rfl (by assumption) rfl ?_
          refine wr_if_eq rfl rfl rfl (by omega) (fun c28 => by exfalso; omega) (fun c28 => ?_)
          refine wr_iconst rfl rfl ?_
          refine wr_goto rfl rfl ?_
          refine wr_zret rfl rfl (by decide) ?_
          exact ⟨rfl, rfl⟩
        · rw [b2_f (show ¬ (z.wk = 1 ∧ ((k = -1 ∧ z.L.e = 1) ∨ (k = 1 ∧ z.R.e = 1))) from fun q => by omega)]
          refine wr_aload_n rfl rfl rfl ?_
          refine wr_get (ci := 0) (f := 10) rfl rfl rfl (by assumption) rfl ?_
          refine wr_get (ci := 6) (f := 2) rfl rfl rfl (by assumption) rfl ?_
          refine wr_if_eq rfl rfl rfl (by omega) (fun c7 => by exfalso; omega) (fun c7 => ?_)
          refine wr_iload_n rfl rfl rfl ?_
          refine wr_cs1 (k' := 53) rfl rfl rfl rfl rfl (wp_isSide hk) (fun r h2 q => ?_)
          obtain ⟨rfl, hh⟩ := q
          rw [hh]
          clear hh h2
          dsimp only [Option.toList, List.cons_append, List.nil_append]
          refine wr_if_eq rfl rfl rfl (by omega) (fun c14 => by exfalso; omega) (fun c14 => ?_)
          refine wr_aload_n rfl rfl rfl ?_
          refine wr_get (ci := 0) (f := 10) rfl rfl rfl (by assumption) rfl ?_
          refine wr_iload_n rfl rfl rfl ?_
          refine wr_cv1 (k' := 115) (ci := 6) rfl rfl rfl rfl (by assumption) rfl rfl (sb) (fun r h2 q => ?_)
          obtain ⟨rfl, hh⟩ := q
          rw [hh]
          clear hh h2
          dsimp only [Option.toList, List.cons_append, List.nil_append]
          refine wr_get (ci := 7) (f := 7) rfl rfl rfl (by assumption) rfl ?_
          refine wr_if_eq rfl rfl rfl (by omega) (fun c28 => ?_) (fun c28 => by exfalso; omega)
          refine wr_iconst rfl rfl ?_
          refine wr_zret rfl rfl (by decide) ?_
          exact ⟨rfl, rfl⟩
    · have t1 := b2_f s1
      rw [b2_f (show ¬ (z.wk = 1 ∧ ((k = -1 ∧ z.L.e = 1) ∨ (k = 1 ∧ z.R.e = 1))) from fun q => by omega)]
      refine wr_aload_n rfl rfl rfl ?_
      refine wr_get (ci := 0) (f := 10) rfl rfl rfl (by assumption) rfl ?_
      refine wr_get (ci := 6) (f := 2) rfl rfl rfl (by assumption) rfl ?_
      refine wr_if_eq rfl rfl rfl (by omega) (fun c7 => by exfalso; omega) (fun c7 => ?_)
      refine wr_iload_n rfl rfl rfl ?_
      refine wr_cs1 (k' := 53) rfl rfl rfl rfl rfl (wp_isSide hk) (fun r h2 q => ?_)
      obtain ⟨rfl, hh⟩ := q
      rw [hh]
      clear hh h2
      dsimp only [Option.toList, List.cons_append, List.nil_append]
      refine wr_if_eq rfl rfl rfl (by omega) (fun c14 => ?_) (fun c14 => by exfalso; omega)
      refine wr_iconst rfl rfl ?_
      refine wr_zret rfl rfl (by decide) ?_
      exact ⟨rfl, rfl⟩
  · rw [b2_f (show ¬ (z.wk = 1 ∧ ((k = -1 ∧ z.L.e = 1) ∨ (k = 1 ∧ z.R.e = 1))) from fun q => w1 q.1)]
    refine wr_aload_n rfl rfl rfl ?_
    refine wr_get (ci := 0) (f := 10) rfl rfl rfl (by assumption) rfl ?_
    refine wr_get (ci := 6) (f := 2) rfl rfl rfl (by assumption) rfl ?_
    refine wr_if_eq rfl rfl rfl (by omega) (fun c7 => ?_) (fun c7 => by exfalso; omega)
    refine wr_iconst rfl rfl ?_
    refine wr_zret rfl rfl (by decide) ?_
    exact ⟨rfl, rfl⟩
def countP (z : PS) (k : Int) : Int := if k = 0 then z.M.sz else if k = 1 then z.gn else if k = 2 then cornN z else if k = 3 then z.ks else if k = 4 then z.n else if k = 5 then z.ch else -1
theorem cr_count {d : Nat} {k : Int} (C : CR h z) (V : VS z) (hk : -2147483648 ≤ k ∧ k ≤ 2147483647) : am_c X (d + 2) 138 [.ref 0, .int (iI k)] h (fun r h' => r = some (.int (iI (countP z k))) ∧ h' = h) := by
  have C' := C
  obtain ⟨⟨tp, dr, into, p, op, wr, wt, Md, a, b, c, e, f, g⟩, ws, as, st, ix, pl, S, F, W, G⟩ := C
  have cs0 := G.1.se.1
  have c13 := f.1
  have c16 := g.1
  have ctp := c.1
  have cq := gw_corners (X := X) (d := d) G.1 V.wkb
  rw [G.2.1.1, G.2.1.2] at cq
  unfold countP
  refine am_c.of (Nat.le_of_ble_eq_true rfl) ?_
  show am_w _ _ _ (_, [_, _], _, _) _
  refine wr_iload_n rfl rfl rfl ?_
  refine sw_138_1 (by omega) (fun c1 => ?_) (fun c1 => ?_) (fun c1 => ?_) (fun c1 => ?_) (fun c1 => ?_) (fun c1 => ?_) (fun c1_0 c1_1 c1_2 c1_3 c1_4 c1_5 => ?_)
  ·
    refine wr_aload_n rfl rfl rfl ?_
    refine wr_get (ci := 0) (f := 1) rfl rfl rfl (by assumption) rfl ?_
    refine wr_get (ci := 1) (f := 7) rfl rfl rfl (by assumption) rfl ?_
    refine wr_iret rfl rfl ?_
    refine ⟨eqI ?_, rfl⟩
    first | rw [if_pos (by omega)] | rw [if_neg (by omega), if_pos (by omega)] | rw [if_neg (by omega), if_neg (by omega), if_pos (by omega)] | rw [if_neg (by omega), if_neg (by omega), if_neg (by omega), if_pos (by omega)] | rw [if_neg (by omega), if_neg (by omega), if_neg (by omega), if_neg (by omega), if_pos (by omega)] | rw [if_neg (by omega), if_neg (by omega), if_neg (by omega), if_neg (by omega), if_neg (by omega), if_pos (by omega)] | rw [if_neg (by omega), if_neg (by omega), if_neg (by omega), if_neg (by omega), if_neg (by omega), if_neg (by omega)]
  ·
    refine wr_aload_n rfl rfl rfl ?_
    refine wr_get (ci := 0) (f := 3) rfl rfl rfl (by assumption) rfl ?_
    refine wr_get (ci := 3) (f := 2) rfl rfl rfl (by assumption) rfl ?_
    refine wr_iret rfl rfl ?_
    refine ⟨eqI ?_, rfl⟩
    first | rw [if_pos (by omega)] | rw [if_neg (by omega), if_pos (by omega)] | rw [if_neg (by omega), if_neg (by omega), if_pos (by omega)] | rw [if_neg (by omega), if_neg (by omega), if_neg (by omega), if_pos (by omega)] | rw [if_neg (by omega), if_neg (by omega), if_neg (by omega), if_neg (by omega), if_pos (by omega)] | rw [if_neg (by omega), if_neg (by omega), if_neg (by omega), if_neg (by omega), if_neg (by omega), if_pos (by omega)] | rw [if_neg (by omega), if_neg (by omega), if_neg (by omega), if_neg (by omega), if_neg (by omega), if_neg (by omega)]
  ·
    refine wr_aload_n rfl rfl rfl ?_
    refine wr_get (ci := 0) (f := 10) rfl rfl rfl (by assumption) rfl ?_
    refine wr_cv0 (k' := 105) (ci := 6) rfl rfl rfl rfl (by assumption) rfl rfl (cq) (fun r h2 q => ?_)
    obtain ⟨rfl, hh⟩ := q
    rw [hh]
    clear hh h2
    dsimp only [Option.toList, List.cons_append, List.nil_append]
    rw [show (if z.wk = 1 then (z.L.N : Int) + 1 + z.R.N else 0) = cornN z from rfl]
    refine wr_iret rfl rfl ?_
    refine ⟨eqI ?_, rfl⟩
    first | rw [if_pos (by omega)] | rw [if_neg (by omega), if_pos (by omega)] | rw [if_neg (by omega), if_neg (by omega), if_pos (by omega)] | rw [if_neg (by omega), if_neg (by omega), if_neg (by omega), if_pos (by omega)] | rw [if_neg (by omega), if_neg (by omega), if_neg (by omega), if_neg (by omega), if_pos (by omega)] | rw [if_neg (by omega), if_neg (by omega), if_neg (by omega), if_neg (by omega), if_neg (by omega), if_pos (by omega)] | rw [if_neg (by omega), if_neg (by omega), if_neg (by omega), if_neg (by omega), if_neg (by omega), if_neg (by omega)]
  ·
    refine wr_aload_n rfl rfl rfl ?_
    refine wr_get (ci := 0) (f := 15) rfl rfl rfl (by assumption) rfl ?_
    refine wr_iret rfl rfl ?_
    refine ⟨eqI ?_, rfl⟩
    first | rw [if_pos (by omega)] | rw [if_neg (by omega), if_pos (by omega)] | rw [if_neg (by omega), if_neg (by omega), if_pos (by omega)] | rw [if_neg (by omega), if_neg (by omega), if_neg (by omega), if_pos (by omega)] | rw [if_neg (by omega), if_neg (by omega), if_neg (by omega), if_neg (by omega), if_pos (by omega)] | rw [if_neg (by omega), if_neg (by omega), if_neg (by omega), if_neg (by omega), if_neg (by omega), if_pos (by omega)] | rw [if_neg (by omega), if_neg (by omega), if_neg (by omega), if_neg (by omega), if_neg (by omega), if_neg (by omega)]
  ·
    refine wr_aload_n rfl rfl rfl ?_
    refine wr_get (ci := 0) (f := 0) rfl rfl rfl (by assumption) rfl ?_
    refine wr_get (ci := 2) (f := 1) rfl rfl rfl (by assumption) rfl ?_
    refine wr_iret rfl rfl ?_
    refine ⟨eqI ?_, rfl⟩
    first | rw [if_pos (by omega)] | rw [if_neg (by omega), if_pos (by omega)] | rw [if_neg (by omega), if_neg (by omega), if_pos (by omega)] | rw [if_neg (by omega), if_neg (by omega), if_neg (by omega), if_pos (by omega)] | rw [if_neg (by omega), if_neg (by omega), if_neg (by omega), if_neg (by omega), if_pos (by omega)] | rw [if_neg (by omega), if_neg (by omega), if_neg (by omega), if_neg (by omega), if_neg (by omega), if_pos (by omega)] | rw [if_neg (by omega), if_neg (by omega), if_neg (by omega), if_neg (by omega), if_neg (by omega), if_neg (by omega)]
  ·
    refine wr_aload_n rfl rfl rfl ?_
    refine wr_get (ci := 0) (f := 10) rfl rfl rfl (by assumption) rfl ?_
    refine wr_get (ci := 6) (f := 4) rfl rfl rfl (by assumption) rfl ?_
    refine wr_iret rfl rfl ?_
    refine ⟨eqI ?_, rfl⟩
    first | rw [if_pos (by omega)] | rw [if_neg (by omega), if_pos (by omega)] | rw [if_neg (by omega), if_neg (by omega), if_pos (by omega)] | rw [if_neg (by omega), if_neg (by omega), if_neg (by omega), if_pos (by omega)] | rw [if_neg (by omega), if_neg (by omega), if_neg (by omega), if_neg (by omega), if_pos (by omega)] | rw [if_neg (by omega), if_neg (by omega), if_neg (by omega), if_neg (by omega), if_neg (by omega), if_pos (by omega)] | rw [if_neg (by omega), if_neg (by omega), if_neg (by omega), if_neg (by omega), if_neg (by omega), if_neg (by omega)]
  ·
    refine wr_iconst rfl rfl ?_
    refine wr_iret rfl rfl ?_
    refine ⟨eqI ?_, rfl⟩
    first | rw [if_pos (by omega)] | rw [if_neg (by omega), if_pos (by omega)] | rw [if_neg (by omega), if_neg (by omega), if_pos (by omega)] | rw [if_neg (by omega), if_neg (by omega), if_neg (by omega), if_pos (by omega)] | rw [if_neg (by omega), if_neg (by omega), if_neg (by omega), if_neg (by omega), if_pos (by omega)] | rw [if_neg (by omega), if_neg (by omega), if_neg (by omega), if_neg (by omega), if_neg (by omega), if_pos (by omega)] | rw [if_neg (by omega), if_neg (by omega), if_neg (by omega), if_neg (by omega), if_neg (by omega), if_neg (by omega)]
theorem seHof (V : VS z) (G : CG h0 h z ws as st ix pl S F W) (w1 : z.wk = 1) : seH z.vn z.vo z.vl S F := by
  obtain ⟨-, ⟨s1, s2⟩, ⟨f1, f2, f3, f4⟩, -⟩ := G
  have s := V.sec w1
  exact ⟨s.1, by rw [s1, f1, f2]; exact s.2.1, by rw [s2, f3, f4]; exact s.2.2⟩
theorem areaOf (V : VS z) (G : CG h0 h z ws as st ix pl S F W) (w1 : z.wk = 1) : reA z.vn z.vo S F (pC z.vn z.vo z.vl S) 46 1 0 = areaC z ∧ reA z.vn z.vo S F (pF z.vn z.vo z.vl S) 46 1 0 = areaF z := by
  have H := seHof V G w1
  obtain ⟨-, ⟨s1, s2⟩, ⟨f1, f2, f3, f4⟩, -⟩ := G
  have z0 : ∀ P, reS z.vn z.vo (sgO 46) (S 46) (F 52) P 1 0 = arT z.vn z.vo (sgO 46) (S 46) (F 52) P (S 46).N 1 := fun P => reS_start H.lf.o0
  unfold reA areaC areaF sdC sdF
  rw [if_pos rfl, if_pos rfl, z0, z0, s1, s2, f1, f3]
  constructor
  · unfold pC; rw [s1, s2]; rfl
  · unfold pF; rw [s1, s2]; rfl
/-- the areas settled -/
theorem cr_settle {d : Nat} (V : VS z) (G : CG h0 h z ws as st ix pl S F W) (w1 : z.wk = 1) : am_c X (d + 7) 122 [.ref 95] h (fun r h' => r = none ∧ ∃ as' ix' pl' F', CG h0 h' z ws as' 1 ix' pl' S F' W ∧ F' 96 = areaC z ∧ F' 101 = areaF z ∧ cuB 36 (F' 96) ∧ cuB 36 (F' 101)) := by
  have ar := areaOf V G w1
  have H := seHof V G w1
  obtain ⟨g, gs, gf, gt, gw, gv, gv2⟩ := G
  rcases gt with e | ⟨e, x1, x2, x3, x4⟩
  · subst e
    refine am_c.mono (gw_settle g H) (fun r h' q => ?_)
    obtain ⟨rfl, F', as', ix', pl', w, v1, v2, K, q1, q2⟩ := q
    rw [ar.1] at v1
    rw [ar.2] at v2
    have k : ∀ i, i = 52 ∨ i = 57 ∨ i = 68 ∨ i = 73 ∨ i = 140 ∨ i = 154 → F' i = F i := fun i hi => K i (by omega) (by omega) (by omega) (by omega) (by omega) (by omega) (by omega)
    exact ⟨rfl, as', ix', pl', F', ⟨w, gs, ⟨by rw [k 52 (by omega)]; exact gf.1, by rw [k 57 (by omega)]; exact gf.2.1, by rw [k 68 (by omega)]; exact gf.2.2.1, by rw [k 73 (by omega)]; exact gf.2.2.2⟩, Or.inr ⟨rfl, v1, v2, q1, q2⟩, gw, by rw [k 140 (by omega)]; exact gv, by rw [k 154 (by omega)]; exact gv2⟩, v1, v2, q1, q2⟩
  · subst e
    refine am_c.mono (gw_settle0 g) (fun r h' q => ?_)
    obtain ⟨rfl, w⟩ := q
    exact ⟨rfl, as, ix, pl, F, ⟨w, gs, gf, Or.inr ⟨rfl, x1, x2, x3, x4⟩, gw, gv, gv2⟩, x1, x2, x3, x4⟩
theorem CR.re (a : (tp = 1 ∧ dr = 7) ∨ (tp = 7 ∧ dr = 1)) (b : h[0]? = some (.inr (0, [.ref 13, .ref tp, .ref dr, .ref 16, .ref 19, .int (iI z.al), .int (iI z.ab), .int (iI z.ll), .int (iI z.lr), .ref 22, .ref 45, .ref 79, .ref 95, .ref 131, .ref 145, .int (iI z.ks), .int (iI z.lm), .ref 159]))) (c : isT h tp z.M) (e : isT h dr Md) (f : isR h 13 into z.T z.n p wr wt op) (g : isG h 16 z.gn z.go z.gl) (G : CG h h' z ws as st ix pl S F W) : CR h' z ∧ frI [(0, 163)] h h' := by
  have s := G.1.low
  exact ⟨⟨⟨tp, dr, into, p, op, wr, wt, Md, a, by rw [s 0 (by omega) (by omega)]; exact b, c.same s (by omega), e.same s (by omega), f.same s (by omega), g.same s (by omega)⟩, ws, as, st, ix, pl, S, F, W, ⟨G.1.base, G.2⟩⟩, G.1.out⟩
theorem cr_area {d : Nat} {x part : Int} (C : CR h z) (V : VS z) (hx : x = 0 ∨ x = 1) (hp : -2147483648 ≤ part ∧ part ≤ 2147483647) : am_c X (d + 8) 121 [.ref 0, .int (iI x), .int (iI part)] h (fun r h' => r = some (.long (lI (if z.wk = 1 then tellP (if x = 1 then areaC z else areaF z) 1 part else missP part))) ∧ CR h' z ∧ frI [(0, 163)] h h') := by
  have C' := C
  obtain ⟨⟨tp, dr, into, p, op, wr, wt, Md, a, b, c, e, f, g⟩, ws, as, st, ix, pl, S, F, W, G⟩ := C
  have cs0 := G.1.se.1
  have caa := G.1.aa
  have wkb := V.wkb
  refine am_c.of (Nat.le_of_ble_eq_true rfl) ?_
  show am_w _ _ _ (_, [_, _, _], _, _) _
  by_cases w1 : z.wk = 1
  · rw [if_pos w1]
    refine wr_aload_n rfl rfl rfl ?_
    refine wr_get (ci := 0) (f := 10) rfl rfl rfl (by assumption) rfl ?_
    refine wr_get (ci := 6) (f := 2) rfl rfl rfl (by assumption) rfl ?_
    refine wr_if_ne rfl rfl rfl (by omega) (fun c7 => ?_) (fun c7 => by exfalso; omega)
    refine wr_aload_n rfl rfl rfl ?_
    refine wr_get (ci := 0) (f := 12) rfl rfl rfl (by assumption) rfl ?_
    refine wr_cv0 (k' := 122) (ci := 10) rfl rfl rfl rfl (by assumption) rfl rfl (cr_settle V G w1) (fun r h2 q => ?_)
    obtain ⟨rfl, as', ix', pl', F', G', v1, v2, -, -⟩ := q
    dsimp only [Option.toList, List.nil_append]
    have R := CR.re a b c e f g G'
    obtain ⟨⟨tp, dr, into, p, op, wr, wt, Md, a, b, c, e, f, g⟩, -⟩ := id R.1
    have caa := G'.1.aa
    rcases hx with rfl | rfl
    · rw [if_neg (by decide)]
      refine wr_iload_n rfl rfl rfl ?_
      refine wr_if_eq rfl rfl rfl (by omega) (fun c23 => ?_) (fun c23 => by exfalso; omega)
      refine wr_aload_n rfl rfl rfl ?_
      refine wr_get (ci := 0) (f := 12) rfl rfl rfl (by assumption) rfl ?_
      refine wr_get (ci := 10) (f := 4) rfl rfl rfl (by assumption) rfl ?_
      refine wr_iconst rfl rfl ?_
      refine wr_iload_n rfl rfl rfl ?_
      refine wr_cs3 (k' := 111) rfl rfl rfl rfl rfl (wp_tell (G'.1.ff _ mF101) (by decide) hp (Or.inl rfl)) (fun r h2 q => ?_)
      obtain ⟨rfl, hh⟩ := q
      rw [hh]
      clear hh h2
      dsimp only [Option.toList, List.cons_append, List.nil_append]
      rw [v2]
      refine wr_lret rfl rfl ?_
      exact ⟨rfl, R⟩
    · rw [if_pos rfl]
      refine wr_iload_n rfl rfl rfl ?_
      refine wr_if_eq rfl rfl rfl (by omega) (fun c23 => by exfalso; omega) (fun c23 => ?_)
      refine wr_aload_n rfl rfl rfl ?_
      refine wr_get (ci := 0) (f := 12) rfl rfl rfl (by assumption) rfl ?_
      refine wr_get (ci := 10) (f := 3) rfl rfl rfl (by assumption) rfl ?_
      refine wr_goto rfl rfl ?_
      refine wr_iconst rfl rfl ?_
      refine wr_iload_n rfl rfl rfl ?_
      refine wr_cs3 (k' := 111) rfl rfl rfl rfl rfl (wp_tell (G'.1.ff _ mF96) (by decide) hp (Or.inl rfl)) (fun r h2 q => ?_)
      obtain ⟨rfl, hh⟩ := q
      rw [hh]
      clear hh h2
      dsimp only [Option.toList, List.cons_append, List.nil_append]
      rw [v1]
      refine wr_lret rfl rfl ?_
      exact ⟨rfl, R⟩
  · rw [if_neg w1]
    refine wr_aload_n rfl rfl rfl ?_
    refine wr_get (ci := 0) (f := 10) rfl rfl rfl (by assumption) rfl ?_
    refine wr_get (ci := 6) (f := 2) rfl rfl rfl (by assumption) rfl ?_
    refine wr_if_ne rfl rfl rfl (by omega) (fun c7 => by exfalso; omega) (fun c7 => ?_)
    refine wr_iload_n rfl rfl rfl ?_
    refine wr_cs1 (k' := 107) rfl rfl rfl rfl rfl (wp_missing hp) (fun r h2 q => ?_)
    obtain ⟨rfl, hh⟩ := q
    rw [hh]
    clear hh h2
    dsimp only [Option.toList, List.cons_append, List.nil_append]
    refine wr_lret rfl rfl ?_
    exact ⟨rfl, C', frI_rf _ _⟩
theorem cr_volume {d : Nat} {x part : Int} (C : CR h z) (hx : x = 0 ∨ x = 1) (hp : -2147483648 ≤ part ∧ part ≤ 2147483647) : am_c X (d + 3) 137 [.ref 0, .int (iI x), .int (iI part)] h (fun r h' => r = some (.long (lI (tellP (if x = 1 then (z.vC : Rat) else z.vF) 1 part))) ∧ h' = h) := by
  have C' := C
  obtain ⟨⟨tp, dr, into, p, op, wr, wt, Md, a, b, c, e, f, g⟩, ws, as, st, ix, pl, S, F, W, G⟩ := C
  have v1 := G.2.2.2.2.2.1
  have v2 := G.2.2.2.2.2.2
  have ce1 := G.1.e1
  have ce2 := G.1.e2
  refine am_c.of (Nat.le_of_ble_eq_true rfl) ?_
  show am_w _ _ _ (_, [_, _, _], _, _) _
  rcases hx with rfl | rfl
  · rw [if_neg (by decide)]
    refine wr_iload_n rfl rfl rfl ?_
    refine wr_if_eq rfl rfl rfl (by omega) (fun c1 => ?_) (fun c1 => by exfalso; omega)
    refine wr_aload_n rfl rfl rfl ?_
    refine wr_get (ci := 0) (f := 14) rfl rfl rfl (by assumption) rfl ?_
    refine wr_get (ci := 11) (f := 4) rfl rfl rfl (by assumption) rfl ?_
    refine wr_iconst rfl rfl ?_
    refine wr_iload_n rfl rfl rfl ?_
    refine wr_cs3 (k' := 111) rfl rfl rfl rfl rfl (wp_tell (G.1.ff _ mF154) (by decide) hp (Or.inl rfl)) (fun r h2 q => ?_)
    obtain ⟨rfl, hh⟩ := q
    rw [hh]
    clear hh h2
    dsimp only [Option.toList, List.cons_append, List.nil_append]
    rw [v2]
    refine wr_lret rfl rfl ?_
    exact ⟨rfl, rfl⟩
  · rw [if_pos rfl]
    refine wr_iload_n rfl rfl rfl ?_
    refine wr_if_eq rfl rfl rfl (by omega) (fun c1 => by exfalso; omega) (fun c1 => ?_)
    refine wr_aload_n rfl rfl rfl ?_
    refine wr_get (ci := 0) (f := 13) rfl rfl rfl (by assumption) rfl ?_
    refine wr_get (ci := 11) (f := 4) rfl rfl rfl (by assumption) rfl ?_
    refine wr_goto rfl rfl ?_
    refine wr_iconst rfl rfl ?_
    refine wr_iload_n rfl rfl rfl ?_
    refine wr_cs3 (k' := 111) rfl rfl rfl rfl rfl (wp_tell (G.1.ff _ mF140) (by decide) hp (Or.inl rfl)) (fun r h2 q => ?_)
    obtain ⟨rfl, hh⟩ := q
    rw [hh]
    clear hh h2
    dsimp only [Option.toList, List.cons_append, List.nil_append]
    rw [v1]
    refine wr_lret rfl rfl ?_
    exact ⟨rfl, rfl⟩
end STA
