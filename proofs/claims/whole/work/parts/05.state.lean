abbrev Bx : Type := va_G × ClassId × ClassId × (Nat → Nat) × (Nat → Nat)
abbrev gx (B : Bx) : Gx := (B.1, vwCl, B.2.1, B.2.2.1, B.2.2.2.1, B.2.2.2.2)
def rmD (d : Nat) : Room := { frames := d, cells := 0, slots := 0, locals := 45 * d }
abbrev TS : Type := (Nat → Int32) × (Int32) × (Nat → Int32) × (Int32) × (Nat → Int32) × (Int32) × (Nat → Int32) × (Int32)
def tPt (s : TS) : Nat → Int32 := s.1
def tsPt (s : TS) (v : Nat → Int32) : TS := (v, s.2.1, s.2.2.1, s.2.2.2.1, s.2.2.2.2.1, s.2.2.2.2.2.1, s.2.2.2.2.2.2.1, s.2.2.2.2.2.2.2)
def tPp (s : TS) : Int32 := s.2.1
def tsPp (s : TS) (v : Int32) : TS := (s.1, v, s.2.2.1, s.2.2.2.1, s.2.2.2.2.1, s.2.2.2.2.2.1, s.2.2.2.2.2.2.1, s.2.2.2.2.2.2.2)
def tNt (s : TS) : Nat → Int32 := s.2.2.1
def tsNt (s : TS) (v : Nat → Int32) : TS := (s.1, s.2.1, v, s.2.2.2.1, s.2.2.2.2.1, s.2.2.2.2.2.1, s.2.2.2.2.2.2.1, s.2.2.2.2.2.2.2)
def tNn (s : TS) : Int32 := s.2.2.2.1
def tsNn (s : TS) (v : Int32) : TS := (s.1, s.2.1, s.2.2.1, v, s.2.2.2.2.1, s.2.2.2.2.2.1, s.2.2.2.2.2.2.1, s.2.2.2.2.2.2.2)
def tBt (s : TS) : Nat → Int32 := s.2.2.2.2.1
def tsBt (s : TS) (v : Nat → Int32) : TS := (s.1, s.2.1, s.2.2.1, s.2.2.2.1, v, s.2.2.2.2.2.1, s.2.2.2.2.2.2.1, s.2.2.2.2.2.2.2)
def tHh (s : TS) : Int32 := s.2.2.2.2.2.1
def tsHh (s : TS) (v : Int32) : TS := (s.1, s.2.1, s.2.2.1, s.2.2.2.1, s.2.2.2.2.1, v, s.2.2.2.2.2.2.1, s.2.2.2.2.2.2.2)
def tSe (s : TS) : Nat → Int32 := s.2.2.2.2.2.2.1
def tsSe (s : TS) (v : Nat → Int32) : TS := (s.1, s.2.1, s.2.2.1, s.2.2.2.1, s.2.2.2.2.1, s.2.2.2.2.2.1, v, s.2.2.2.2.2.2.2)
def tYr (s : TS) : Int32 := s.2.2.2.2.2.2.2
def tsYr (s : TS) (v : Int32) : TS := (s.1, s.2.1, s.2.2.1, s.2.2.2.1, s.2.2.2.2.1, s.2.2.2.2.2.1, s.2.2.2.2.2.2.1, v)
theorem tg_Pt_Pt (s : TS) (v : Nat → Int32) : tPt (tsPt s v) = v := rfl
theorem tg_Pt_Pp (s : TS) (v : Int32) : tPt (tsPp s v) = tPt s := rfl
theorem tg_Pt_Nt (s : TS) (v : Nat → Int32) : tPt (tsNt s v) = tPt s := rfl
theorem tg_Pt_Nn (s : TS) (v : Int32) : tPt (tsNn s v) = tPt s := rfl
theorem tg_Pt_Bt (s : TS) (v : Nat → Int32) : tPt (tsBt s v) = tPt s := rfl
theorem tg_Pt_Hh (s : TS) (v : Int32) : tPt (tsHh s v) = tPt s := rfl
theorem tg_Pt_Se (s : TS) (v : Nat → Int32) : tPt (tsSe s v) = tPt s := rfl
theorem tg_Pt_Yr (s : TS) (v : Int32) : tPt (tsYr s v) = tPt s := rfl
theorem tg_Pp_Pt (s : TS) (v : Nat → Int32) : tPp (tsPt s v) = tPp s := rfl
theorem tg_Pp_Pp (s : TS) (v : Int32) : tPp (tsPp s v) = v := rfl
theorem tg_Pp_Nt (s : TS) (v : Nat → Int32) : tPp (tsNt s v) = tPp s := rfl
theorem tg_Pp_Nn (s : TS) (v : Int32) : tPp (tsNn s v) = tPp s := rfl
theorem tg_Pp_Bt (s : TS) (v : Nat → Int32) : tPp (tsBt s v) = tPp s := rfl
theorem tg_Pp_Hh (s : TS) (v : Int32) : tPp (tsHh s v) = tPp s := rfl
theorem tg_Pp_Se (s : TS) (v : Nat → Int32) : tPp (tsSe s v) = tPp s := rfl
theorem tg_Pp_Yr (s : TS) (v : Int32) : tPp (tsYr s v) = tPp s := rfl
theorem tg_Nt_Pt (s : TS) (v : Nat → Int32) : tNt (tsPt s v) = tNt s := rfl
theorem tg_Nt_Pp (s : TS) (v : Int32) : tNt (tsPp s v) = tNt s := rfl
theorem tg_Nt_Nt (s : TS) (v : Nat → Int32) : tNt (tsNt s v) = v := rfl
theorem tg_Nt_Nn (s : TS) (v : Int32) : tNt (tsNn s v) = tNt s := rfl
theorem tg_Nt_Bt (s : TS) (v : Nat → Int32) : tNt (tsBt s v) = tNt s := rfl
theorem tg_Nt_Hh (s : TS) (v : Int32) : tNt (tsHh s v) = tNt s := rfl
theorem tg_Nt_Se (s : TS) (v : Nat → Int32) : tNt (tsSe s v) = tNt s := rfl
theorem tg_Nt_Yr (s : TS) (v : Int32) : tNt (tsYr s v) = tNt s := rfl
theorem tg_Nn_Pt (s : TS) (v : Nat → Int32) : tNn (tsPt s v) = tNn s := rfl
theorem tg_Nn_Pp (s : TS) (v : Int32) : tNn (tsPp s v) = tNn s := rfl
theorem tg_Nn_Nt (s : TS) (v : Nat → Int32) : tNn (tsNt s v) = tNn s := rfl
theorem tg_Nn_Nn (s : TS) (v : Int32) : tNn (tsNn s v) = v := rfl
theorem tg_Nn_Bt (s : TS) (v : Nat → Int32) : tNn (tsBt s v) = tNn s := rfl
theorem tg_Nn_Hh (s : TS) (v : Int32) : tNn (tsHh s v) = tNn s := rfl
theorem tg_Nn_Se (s : TS) (v : Nat → Int32) : tNn (tsSe s v) = tNn s := rfl
theorem tg_Nn_Yr (s : TS) (v : Int32) : tNn (tsYr s v) = tNn s := rfl
theorem tg_Bt_Pt (s : TS) (v : Nat → Int32) : tBt (tsPt s v) = tBt s := rfl
theorem tg_Bt_Pp (s : TS) (v : Int32) : tBt (tsPp s v) = tBt s := rfl
theorem tg_Bt_Nt (s : TS) (v : Nat → Int32) : tBt (tsNt s v) = tBt s := rfl
theorem tg_Bt_Nn (s : TS) (v : Int32) : tBt (tsNn s v) = tBt s := rfl
theorem tg_Bt_Bt (s : TS) (v : Nat → Int32) : tBt (tsBt s v) = v := rfl
theorem tg_Bt_Hh (s : TS) (v : Int32) : tBt (tsHh s v) = tBt s := rfl
theorem tg_Bt_Se (s : TS) (v : Nat → Int32) : tBt (tsSe s v) = tBt s := rfl
theorem tg_Bt_Yr (s : TS) (v : Int32) : tBt (tsYr s v) = tBt s := rfl
theorem tg_Hh_Pt (s : TS) (v : Nat → Int32) : tHh (tsPt s v) = tHh s := rfl
theorem tg_Hh_Pp (s : TS) (v : Int32) : tHh (tsPp s v) = tHh s := rfl
theorem tg_Hh_Nt (s : TS) (v : Nat → Int32) : tHh (tsNt s v) = tHh s := rfl
theorem tg_Hh_Nn (s : TS) (v : Int32) : tHh (tsNn s v) = tHh s := rfl
theorem tg_Hh_Bt (s : TS) (v : Nat → Int32) : tHh (tsBt s v) = tHh s := rfl
theorem tg_Hh_Hh (s : TS) (v : Int32) : tHh (tsHh s v) = v := rfl
theorem tg_Hh_Se (s : TS) (v : Nat → Int32) : tHh (tsSe s v) = tHh s := rfl
theorem tg_Hh_Yr (s : TS) (v : Int32) : tHh (tsYr s v) = tHh s := rfl
theorem tg_Se_Pt (s : TS) (v : Nat → Int32) : tSe (tsPt s v) = tSe s := rfl
theorem tg_Se_Pp (s : TS) (v : Int32) : tSe (tsPp s v) = tSe s := rfl
theorem tg_Se_Nt (s : TS) (v : Nat → Int32) : tSe (tsNt s v) = tSe s := rfl
theorem tg_Se_Nn (s : TS) (v : Int32) : tSe (tsNn s v) = tSe s := rfl
theorem tg_Se_Bt (s : TS) (v : Nat → Int32) : tSe (tsBt s v) = tSe s := rfl
theorem tg_Se_Hh (s : TS) (v : Int32) : tSe (tsHh s v) = tSe s := rfl
theorem tg_Se_Se (s : TS) (v : Nat → Int32) : tSe (tsSe s v) = v := rfl
theorem tg_Se_Yr (s : TS) (v : Int32) : tSe (tsYr s v) = tSe s := rfl
theorem tg_Yr_Pt (s : TS) (v : Nat → Int32) : tYr (tsPt s v) = tYr s := rfl
theorem tg_Yr_Pp (s : TS) (v : Int32) : tYr (tsPp s v) = tYr s := rfl
theorem tg_Yr_Nt (s : TS) (v : Nat → Int32) : tYr (tsNt s v) = tYr s := rfl
theorem tg_Yr_Nn (s : TS) (v : Int32) : tYr (tsNn s v) = tYr s := rfl
theorem tg_Yr_Bt (s : TS) (v : Nat → Int32) : tYr (tsBt s v) = tYr s := rfl
theorem tg_Yr_Hh (s : TS) (v : Int32) : tYr (tsHh s v) = tYr s := rfl
theorem tg_Yr_Se (s : TS) (v : Nat → Int32) : tYr (tsSe s v) = tYr s := rfl
theorem tg_Yr_Yr (s : TS) (v : Int32) : tYr (tsYr s v) = v := rfl
theorem te_Pt (s : TS) : tsPt s (tPt s) = s := rfl
theorem to_Pt (s : TS) (v w : Nat → Int32) : tsPt (tsPt s v) w = tsPt s w := rfl
theorem te_Pp (s : TS) : tsPp s (tPp s) = s := rfl
theorem to_Pp (s : TS) (v w : Int32) : tsPp (tsPp s v) w = tsPp s w := rfl
theorem te_Nt (s : TS) : tsNt s (tNt s) = s := rfl
theorem to_Nt (s : TS) (v w : Nat → Int32) : tsNt (tsNt s v) w = tsNt s w := rfl
theorem te_Nn (s : TS) : tsNn s (tNn s) = s := rfl
theorem to_Nn (s : TS) (v w : Int32) : tsNn (tsNn s v) w = tsNn s w := rfl
theorem te_Bt (s : TS) : tsBt s (tBt s) = s := rfl
theorem to_Bt (s : TS) (v w : Nat → Int32) : tsBt (tsBt s v) w = tsBt s w := rfl
theorem te_Hh (s : TS) : tsHh s (tHh s) = s := rfl
theorem to_Hh (s : TS) (v w : Int32) : tsHh (tsHh s v) w = tsHh s w := rfl
theorem te_Se (s : TS) : tsSe s (tSe s) = s := rfl
theorem to_Se (s : TS) (v w : Nat → Int32) : tsSe (tsSe s v) w = tsSe s w := rfl
theorem te_Yr (s : TS) : tsYr s (tYr s) = s := rfl
theorem to_Yr (s : TS) (v w : Int32) : tsYr (tsYr s v) w = tsYr s w := rfl
abbrev SS : Type := (Nat → Int32) × (Int32) × (Nat → Int32) × (Nat → Int64) × (Nat → Int64) × (Nat → Int32) × (Int32)
def eNh (s : SS) : Nat → Int32 := s.1
def esNh (s : SS) (v : Nat → Int32) : SS := (v, s.2.1, s.2.2.1, s.2.2.2.1, s.2.2.2.2.1, s.2.2.2.2.2.1, s.2.2.2.2.2.2)
def eHd (s : SS) : Int32 := s.2.1
def esHd (s : SS) (v : Int32) : SS := (s.1, v, s.2.2.1, s.2.2.2.1, s.2.2.2.2.1, s.2.2.2.2.2.1, s.2.2.2.2.2.2)
def eGo (s : SS) : Nat → Int32 := s.2.2.1
def esGo (s : SS) (v : Nat → Int32) : SS := (s.1, s.2.1, v, s.2.2.2.1, s.2.2.2.2.1, s.2.2.2.2.2.1, s.2.2.2.2.2.2)
def eSm (s : SS) : Nat → Int64 := s.2.2.2.1
def esSm (s : SS) (v : Nat → Int64) : SS := (s.1, s.2.1, s.2.2.1, v, s.2.2.2.2.1, s.2.2.2.2.2.1, s.2.2.2.2.2.2)
def eSk (s : SS) : Nat → Int64 := s.2.2.2.2.1
def esSk (s : SS) (v : Nat → Int64) : SS := (s.1, s.2.1, s.2.2.1, s.2.2.2.1, v, s.2.2.2.2.2.1, s.2.2.2.2.2.2)
def eSu (s : SS) : Nat → Int32 := s.2.2.2.2.2.1
def esSu (s : SS) (v : Nat → Int32) : SS := (s.1, s.2.1, s.2.2.1, s.2.2.2.1, s.2.2.2.2.1, v, s.2.2.2.2.2.2)
def eFi (s : SS) : Int32 := s.2.2.2.2.2.2
def esFi (s : SS) (v : Int32) : SS := (s.1, s.2.1, s.2.2.1, s.2.2.2.1, s.2.2.2.2.1, s.2.2.2.2.2.1, v)
theorem eg_Nh_Nh (s : SS) (v : Nat → Int32) : eNh (esNh s v) = v := rfl
theorem eg_Nh_Hd (s : SS) (v : Int32) : eNh (esHd s v) = eNh s := rfl
theorem eg_Nh_Go (s : SS) (v : Nat → Int32) : eNh (esGo s v) = eNh s := rfl
theorem eg_Nh_Sm (s : SS) (v : Nat → Int64) : eNh (esSm s v) = eNh s := rfl
theorem eg_Nh_Sk (s : SS) (v : Nat → Int64) : eNh (esSk s v) = eNh s := rfl
theorem eg_Nh_Su (s : SS) (v : Nat → Int32) : eNh (esSu s v) = eNh s := rfl
theorem eg_Nh_Fi (s : SS) (v : Int32) : eNh (esFi s v) = eNh s := rfl
theorem eg_Hd_Nh (s : SS) (v : Nat → Int32) : eHd (esNh s v) = eHd s := rfl
theorem eg_Hd_Hd (s : SS) (v : Int32) : eHd (esHd s v) = v := rfl
theorem eg_Hd_Go (s : SS) (v : Nat → Int32) : eHd (esGo s v) = eHd s := rfl
theorem eg_Hd_Sm (s : SS) (v : Nat → Int64) : eHd (esSm s v) = eHd s := rfl
theorem eg_Hd_Sk (s : SS) (v : Nat → Int64) : eHd (esSk s v) = eHd s := rfl
theorem eg_Hd_Su (s : SS) (v : Nat → Int32) : eHd (esSu s v) = eHd s := rfl
theorem eg_Hd_Fi (s : SS) (v : Int32) : eHd (esFi s v) = eHd s := rfl
theorem eg_Go_Nh (s : SS) (v : Nat → Int32) : eGo (esNh s v) = eGo s := rfl
theorem eg_Go_Hd (s : SS) (v : Int32) : eGo (esHd s v) = eGo s := rfl
theorem eg_Go_Go (s : SS) (v : Nat → Int32) : eGo (esGo s v) = v := rfl
theorem eg_Go_Sm (s : SS) (v : Nat → Int64) : eGo (esSm s v) = eGo s := rfl
theorem eg_Go_Sk (s : SS) (v : Nat → Int64) : eGo (esSk s v) = eGo s := rfl
theorem eg_Go_Su (s : SS) (v : Nat → Int32) : eGo (esSu s v) = eGo s := rfl
theorem eg_Go_Fi (s : SS) (v : Int32) : eGo (esFi s v) = eGo s := rfl
theorem eg_Sm_Nh (s : SS) (v : Nat → Int32) : eSm (esNh s v) = eSm s := rfl
theorem eg_Sm_Hd (s : SS) (v : Int32) : eSm (esHd s v) = eSm s := rfl
theorem eg_Sm_Go (s : SS) (v : Nat → Int32) : eSm (esGo s v) = eSm s := rfl
theorem eg_Sm_Sm (s : SS) (v : Nat → Int64) : eSm (esSm s v) = v := rfl
theorem eg_Sm_Sk (s : SS) (v : Nat → Int64) : eSm (esSk s v) = eSm s := rfl
theorem eg_Sm_Su (s : SS) (v : Nat → Int32) : eSm (esSu s v) = eSm s := rfl
theorem eg_Sm_Fi (s : SS) (v : Int32) : eSm (esFi s v) = eSm s := rfl
theorem eg_Sk_Nh (s : SS) (v : Nat → Int32) : eSk (esNh s v) = eSk s := rfl
theorem eg_Sk_Hd (s : SS) (v : Int32) : eSk (esHd s v) = eSk s := rfl
theorem eg_Sk_Go (s : SS) (v : Nat → Int32) : eSk (esGo s v) = eSk s := rfl
theorem eg_Sk_Sm (s : SS) (v : Nat → Int64) : eSk (esSm s v) = eSk s := rfl
theorem eg_Sk_Sk (s : SS) (v : Nat → Int64) : eSk (esSk s v) = v := rfl
theorem eg_Sk_Su (s : SS) (v : Nat → Int32) : eSk (esSu s v) = eSk s := rfl
theorem eg_Sk_Fi (s : SS) (v : Int32) : eSk (esFi s v) = eSk s := rfl
theorem eg_Su_Nh (s : SS) (v : Nat → Int32) : eSu (esNh s v) = eSu s := rfl
theorem eg_Su_Hd (s : SS) (v : Int32) : eSu (esHd s v) = eSu s := rfl
theorem eg_Su_Go (s : SS) (v : Nat → Int32) : eSu (esGo s v) = eSu s := rfl
theorem eg_Su_Sm (s : SS) (v : Nat → Int64) : eSu (esSm s v) = eSu s := rfl
theorem eg_Su_Sk (s : SS) (v : Nat → Int64) : eSu (esSk s v) = eSu s := rfl
theorem eg_Su_Su (s : SS) (v : Nat → Int32) : eSu (esSu s v) = v := rfl
theorem eg_Su_Fi (s : SS) (v : Int32) : eSu (esFi s v) = eSu s := rfl
theorem eg_Fi_Nh (s : SS) (v : Nat → Int32) : eFi (esNh s v) = eFi s := rfl
theorem eg_Fi_Hd (s : SS) (v : Int32) : eFi (esHd s v) = eFi s := rfl
theorem eg_Fi_Go (s : SS) (v : Nat → Int32) : eFi (esGo s v) = eFi s := rfl
theorem eg_Fi_Sm (s : SS) (v : Nat → Int64) : eFi (esSm s v) = eFi s := rfl
theorem eg_Fi_Sk (s : SS) (v : Nat → Int64) : eFi (esSk s v) = eFi s := rfl
theorem eg_Fi_Su (s : SS) (v : Nat → Int32) : eFi (esSu s v) = eFi s := rfl
theorem eg_Fi_Fi (s : SS) (v : Int32) : eFi (esFi s v) = v := rfl
theorem ee_Nh (s : SS) : esNh s (eNh s) = s := rfl
theorem eo_Nh (s : SS) (v w : Nat → Int32) : esNh (esNh s v) w = esNh s w := rfl
theorem ee_Hd (s : SS) : esHd s (eHd s) = s := rfl
theorem eo_Hd (s : SS) (v w : Int32) : esHd (esHd s v) w = esHd s w := rfl
theorem ee_Go (s : SS) : esGo s (eGo s) = s := rfl
theorem eo_Go (s : SS) (v w : Nat → Int32) : esGo (esGo s v) w = esGo s w := rfl
theorem ee_Sm (s : SS) : esSm s (eSm s) = s := rfl
theorem eo_Sm (s : SS) (v w : Nat → Int64) : esSm (esSm s v) w = esSm s w := rfl
theorem ee_Sk (s : SS) : esSk s (eSk s) = s := rfl
theorem eo_Sk (s : SS) (v w : Nat → Int64) : esSk (esSk s v) w = esSk s w := rfl
theorem ee_Su (s : SS) : esSu s (eSu s) = s := rfl
theorem eo_Su (s : SS) (v w : Nat → Int32) : esSu (esSu s v) w = esSu s w := rfl
theorem ee_Fi (s : SS) : esFi s (eFi s) = s := rfl
theorem eo_Fi (s : SS) (v w : Int32) : esFi (esFi s v) w = esFi s w := rfl
abbrev LtS : Type := (Nat → Int32) × (Int32)
def lFd (s : LtS) : Nat → Int32 := s.1
def lsFd (s : LtS) (v : Nat → Int32) : LtS := (v, s.2)
def lLn (s : LtS) : Int32 := s.2
def lsLn (s : LtS) (v : Int32) : LtS := (s.1, v)
theorem lg_Fd_Fd (s : LtS) (v : Nat → Int32) : lFd (lsFd s v) = v := rfl
theorem lg_Fd_Ln (s : LtS) (v : Int32) : lFd (lsLn s v) = lFd s := rfl
theorem lg_Ln_Fd (s : LtS) (v : Nat → Int32) : lLn (lsFd s v) = lLn s := rfl
theorem lg_Ln_Ln (s : LtS) (v : Int32) : lLn (lsLn s v) = v := rfl
theorem le_Fd (s : LtS) : lsFd s (lFd s) = s := rfl
theorem lo_Fd (s : LtS) (v w : Nat → Int32) : lsFd (lsFd s v) w = lsFd s w := rfl
theorem le_Ln (s : LtS) : lsLn s (lLn s) = s := rfl
theorem lo_Ln (s : LtS) (v w : Int32) : lsLn (lsLn s v) w = lsLn s w := rfl
abbrev ET : Type := (SS) × (TS)
def fS (s : ET) : SS := s.1
def fsS (s : ET) (v : SS) : ET := (v, s.2)
def fT (s : ET) : TS := s.2
def fsT (s : ET) (v : TS) : ET := (s.1, v)
theorem fg_S_S (s : ET) (v : SS) : fS (fsS s v) = v := rfl
theorem fg_S_T (s : ET) (v : TS) : fS (fsT s v) = fS s := rfl
theorem fg_T_S (s : ET) (v : SS) : fT (fsS s v) = fT s := rfl
theorem fg_T_T (s : ET) (v : TS) : fT (fsT s v) = v := rfl
theorem fe_S (s : ET) : fsS s (fS s) = s := rfl
theorem fo_S (s : ET) (v w : SS) : fsS (fsS s v) w = fsS s w := rfl
theorem fe_T (s : ET) : fsT s (fT s) = s := rfl
theorem fo_T (s : ET) (v w : TS) : fsT (fsT s v) w = fsT s w := rfl
abbrev LT : Type := (LtS) × (TS)
def mL (s : LT) : LtS := s.1
def msL (s : LT) (v : LtS) : LT := (v, s.2)
def mT (s : LT) : TS := s.2
def msT (s : LT) (v : TS) : LT := (s.1, v)
theorem mg_L_L (s : LT) (v : LtS) : mL (msL s v) = v := rfl
theorem mg_L_T (s : LT) (v : TS) : mL (msT s v) = mL s := rfl
theorem mg_T_L (s : LT) (v : LtS) : mT (msL s v) = mT s := rfl
theorem mg_T_T (s : LT) (v : TS) : mT (msT s v) = v := rfl
theorem me_L (s : LT) : msL s (mL s) = s := rfl
theorem mo_L (s : LT) (v w : LtS) : msL (msL s v) w = msL s w := rfl
theorem me_T (s : LT) : msT s (mT s) = s := rfl
theorem mo_T (s : LT) (v w : TS) : msT (msT s v) w = msT s w := rfl
abbrev CS : Type := (Int32) × (Nat → Int32) × (Int32) × (TS)
def cIm (s : CS) : Int32 := s.1
def csIm (s : CS) (v : Int32) : CS := (v, s.2.1, s.2.2.1, s.2.2.2)
def cRo (s : CS) : Nat → Int32 := s.2.1
def csRo (s : CS) (v : Nat → Int32) : CS := (s.1, v, s.2.2.1, s.2.2.2)
def cRl (s : CS) : Int32 := s.2.2.1
def csRl (s : CS) (v : Int32) : CS := (s.1, s.2.1, v, s.2.2.2)
def cT (s : CS) : TS := s.2.2.2
def csT (s : CS) (v : TS) : CS := (s.1, s.2.1, s.2.2.1, v)
theorem cg_Im_Im (s : CS) (v : Int32) : cIm (csIm s v) = v := rfl
theorem cg_Im_Ro (s : CS) (v : Nat → Int32) : cIm (csRo s v) = cIm s := rfl
theorem cg_Im_Rl (s : CS) (v : Int32) : cIm (csRl s v) = cIm s := rfl
theorem cg_Im_T (s : CS) (v : TS) : cIm (csT s v) = cIm s := rfl
theorem cg_Ro_Im (s : CS) (v : Int32) : cRo (csIm s v) = cRo s := rfl
theorem cg_Ro_Ro (s : CS) (v : Nat → Int32) : cRo (csRo s v) = v := rfl
theorem cg_Ro_Rl (s : CS) (v : Int32) : cRo (csRl s v) = cRo s := rfl
theorem cg_Ro_T (s : CS) (v : TS) : cRo (csT s v) = cRo s := rfl
theorem cg_Rl_Im (s : CS) (v : Int32) : cRl (csIm s v) = cRl s := rfl
theorem cg_Rl_Ro (s : CS) (v : Nat → Int32) : cRl (csRo s v) = cRl s := rfl
theorem cg_Rl_Rl (s : CS) (v : Int32) : cRl (csRl s v) = v := rfl
theorem cg_Rl_T (s : CS) (v : TS) : cRl (csT s v) = cRl s := rfl
theorem cg_T_Im (s : CS) (v : Int32) : cT (csIm s v) = cT s := rfl
theorem cg_T_Ro (s : CS) (v : Nat → Int32) : cT (csRo s v) = cT s := rfl
theorem cg_T_Rl (s : CS) (v : Int32) : cT (csRl s v) = cT s := rfl
theorem cg_T_T (s : CS) (v : TS) : cT (csT s v) = v := rfl
theorem ce_Im (s : CS) : csIm s (cIm s) = s := rfl
theorem co_Im (s : CS) (v w : Int32) : csIm (csIm s v) w = csIm s w := rfl
theorem ce_Ro (s : CS) : csRo s (cRo s) = s := rfl
theorem co_Ro (s : CS) (v w : Nat → Int32) : csRo (csRo s v) w = csRo s w := rfl
theorem ce_Rl (s : CS) : csRl s (cRl s) = s := rfl
theorem co_Rl (s : CS) (v w : Int32) : csRl (csRl s v) w = csRl s w := rfl
theorem ce_T (s : CS) : csT s (cT s) = s := rfl
theorem co_T (s : CS) (v w : TS) : csT (csT s v) w = csT s w := rfl
abbrev DT : Type := (TS) × (TS)
def dA (s : DT) : TS := s.1
def dsA (s : DT) (v : TS) : DT := (v, s.2)
def dO (s : DT) : TS := s.2
def dsO (s : DT) (v : TS) : DT := (s.1, v)
theorem dg_A_A (s : DT) (v : TS) : dA (dsA s v) = v := rfl
theorem dg_A_O (s : DT) (v : TS) : dA (dsO s v) = dA s := rfl
theorem dg_O_A (s : DT) (v : TS) : dO (dsA s v) = dO s := rfl
theorem dg_O_O (s : DT) (v : TS) : dO (dsO s v) = v := rfl
theorem de_A (s : DT) : dsA s (dA s) = s := rfl
theorem do_A (s : DT) (v w : TS) : dsA (dsA s v) w = dsA s w := rfl
theorem de_O (s : DT) : dsO s (dO s) = s := rfl
theorem do_O (s : DT) (v w : TS) : dsO (dsO s v) w = dsO s w := rfl
abbrev HS : Type := (TS) × (TS) × (TS) × (Int32) × (SS) × (LtS) × (Nat → Int32) × (Int32) × (Nat → Int32)
def hNow (s : HS) : TS := s.1
def hsNow (s : HS) (v : TS) : HS := (v, s.2.1, s.2.2.1, s.2.2.2.1, s.2.2.2.2.1, s.2.2.2.2.2.1, s.2.2.2.2.2.2.1, s.2.2.2.2.2.2.2.1, s.2.2.2.2.2.2.2.2)
def hMind (s : HS) : TS := s.2.1
def hsMind (s : HS) (v : TS) : HS := (s.1, v, s.2.2.1, s.2.2.2.1, s.2.2.2.2.1, s.2.2.2.2.2.1, s.2.2.2.2.2.2.1, s.2.2.2.2.2.2.2.1, s.2.2.2.2.2.2.2.2)
def hImage (s : HS) : TS := s.2.2.1
def hsImage (s : HS) (v : TS) : HS := (s.1, s.2.1, v, s.2.2.2.1, s.2.2.2.2.1, s.2.2.2.2.2.1, s.2.2.2.2.2.2.1, s.2.2.2.2.2.2.2.1, s.2.2.2.2.2.2.2.2)
def hIm (s : HS) : Int32 := s.2.2.2.1
def hsIm (s : HS) (v : Int32) : HS := (s.1, s.2.1, s.2.2.1, v, s.2.2.2.2.1, s.2.2.2.2.2.1, s.2.2.2.2.2.2.1, s.2.2.2.2.2.2.2.1, s.2.2.2.2.2.2.2.2)
def hS (s : HS) : SS := s.2.2.2.2.1
def hsS (s : HS) (v : SS) : HS := (s.1, s.2.1, s.2.2.1, s.2.2.2.1, v, s.2.2.2.2.2.1, s.2.2.2.2.2.2.1, s.2.2.2.2.2.2.2.1, s.2.2.2.2.2.2.2.2)
def hL (s : HS) : LtS := s.2.2.2.2.2.1
def hsL (s : HS) (v : LtS) : HS := (s.1, s.2.1, s.2.2.1, s.2.2.2.1, s.2.2.2.2.1, v, s.2.2.2.2.2.2.1, s.2.2.2.2.2.2.2.1, s.2.2.2.2.2.2.2.2)
def hRo (s : HS) : Nat → Int32 := s.2.2.2.2.2.2.1
def hsRo (s : HS) (v : Nat → Int32) : HS := (s.1, s.2.1, s.2.2.1, s.2.2.2.1, s.2.2.2.2.1, s.2.2.2.2.2.1, v, s.2.2.2.2.2.2.2.1, s.2.2.2.2.2.2.2.2)
def hRl (s : HS) : Int32 := s.2.2.2.2.2.2.2.1
def hsRl (s : HS) (v : Int32) : HS := (s.1, s.2.1, s.2.2.1, s.2.2.2.1, s.2.2.2.2.1, s.2.2.2.2.2.1, s.2.2.2.2.2.2.1, v, s.2.2.2.2.2.2.2.2)
def hRe (s : HS) : Nat → Int32 := s.2.2.2.2.2.2.2.2
def hsRe (s : HS) (v : Nat → Int32) : HS := (s.1, s.2.1, s.2.2.1, s.2.2.2.1, s.2.2.2.2.1, s.2.2.2.2.2.1, s.2.2.2.2.2.2.1, s.2.2.2.2.2.2.2.1, v)
theorem hg_Now_Now (s : HS) (v : TS) : hNow (hsNow s v) = v := rfl
theorem hg_Now_Mind (s : HS) (v : TS) : hNow (hsMind s v) = hNow s := rfl
theorem hg_Now_Image (s : HS) (v : TS) : hNow (hsImage s v) = hNow s := rfl
theorem hg_Now_Im (s : HS) (v : Int32) : hNow (hsIm s v) = hNow s := rfl
theorem hg_Now_S (s : HS) (v : SS) : hNow (hsS s v) = hNow s := rfl
theorem hg_Now_L (s : HS) (v : LtS) : hNow (hsL s v) = hNow s := rfl
theorem hg_Now_Ro (s : HS) (v : Nat → Int32) : hNow (hsRo s v) = hNow s := rfl
theorem hg_Now_Rl (s : HS) (v : Int32) : hNow (hsRl s v) = hNow s := rfl
theorem hg_Now_Re (s : HS) (v : Nat → Int32) : hNow (hsRe s v) = hNow s := rfl
theorem hg_Mind_Now (s : HS) (v : TS) : hMind (hsNow s v) = hMind s := rfl
theorem hg_Mind_Mind (s : HS) (v : TS) : hMind (hsMind s v) = v := rfl
theorem hg_Mind_Image (s : HS) (v : TS) : hMind (hsImage s v) = hMind s := rfl
theorem hg_Mind_Im (s : HS) (v : Int32) : hMind (hsIm s v) = hMind s := rfl
theorem hg_Mind_S (s : HS) (v : SS) : hMind (hsS s v) = hMind s := rfl
theorem hg_Mind_L (s : HS) (v : LtS) : hMind (hsL s v) = hMind s := rfl
theorem hg_Mind_Ro (s : HS) (v : Nat → Int32) : hMind (hsRo s v) = hMind s := rfl
theorem hg_Mind_Rl (s : HS) (v : Int32) : hMind (hsRl s v) = hMind s := rfl
theorem hg_Mind_Re (s : HS) (v : Nat → Int32) : hMind (hsRe s v) = hMind s := rfl
theorem hg_Image_Now (s : HS) (v : TS) : hImage (hsNow s v) = hImage s := rfl
theorem hg_Image_Mind (s : HS) (v : TS) : hImage (hsMind s v) = hImage s := rfl
theorem hg_Image_Image (s : HS) (v : TS) : hImage (hsImage s v) = v := rfl
theorem hg_Image_Im (s : HS) (v : Int32) : hImage (hsIm s v) = hImage s := rfl
theorem hg_Image_S (s : HS) (v : SS) : hImage (hsS s v) = hImage s := rfl
theorem hg_Image_L (s : HS) (v : LtS) : hImage (hsL s v) = hImage s := rfl
theorem hg_Image_Ro (s : HS) (v : Nat → Int32) : hImage (hsRo s v) = hImage s := rfl
theorem hg_Image_Rl (s : HS) (v : Int32) : hImage (hsRl s v) = hImage s := rfl
theorem hg_Image_Re (s : HS) (v : Nat → Int32) : hImage (hsRe s v) = hImage s := rfl
theorem hg_Im_Now (s : HS) (v : TS) : hIm (hsNow s v) = hIm s := rfl
theorem hg_Im_Mind (s : HS) (v : TS) : hIm (hsMind s v) = hIm s := rfl
theorem hg_Im_Image (s : HS) (v : TS) : hIm (hsImage s v) = hIm s := rfl
theorem hg_Im_Im (s : HS) (v : Int32) : hIm (hsIm s v) = v := rfl
theorem hg_Im_S (s : HS) (v : SS) : hIm (hsS s v) = hIm s := rfl
theorem hg_Im_L (s : HS) (v : LtS) : hIm (hsL s v) = hIm s := rfl
theorem hg_Im_Ro (s : HS) (v : Nat → Int32) : hIm (hsRo s v) = hIm s := rfl
theorem hg_Im_Rl (s : HS) (v : Int32) : hIm (hsRl s v) = hIm s := rfl
theorem hg_Im_Re (s : HS) (v : Nat → Int32) : hIm (hsRe s v) = hIm s := rfl
theorem hg_S_Now (s : HS) (v : TS) : hS (hsNow s v) = hS s := rfl
theorem hg_S_Mind (s : HS) (v : TS) : hS (hsMind s v) = hS s := rfl
theorem hg_S_Image (s : HS) (v : TS) : hS (hsImage s v) = hS s := rfl
theorem hg_S_Im (s : HS) (v : Int32) : hS (hsIm s v) = hS s := rfl
theorem hg_S_S (s : HS) (v : SS) : hS (hsS s v) = v := rfl
theorem hg_S_L (s : HS) (v : LtS) : hS (hsL s v) = hS s := rfl
theorem hg_S_Ro (s : HS) (v : Nat → Int32) : hS (hsRo s v) = hS s := rfl
theorem hg_S_Rl (s : HS) (v : Int32) : hS (hsRl s v) = hS s := rfl
theorem hg_S_Re (s : HS) (v : Nat → Int32) : hS (hsRe s v) = hS s := rfl
theorem hg_L_Now (s : HS) (v : TS) : hL (hsNow s v) = hL s := rfl
theorem hg_L_Mind (s : HS) (v : TS) : hL (hsMind s v) = hL s := rfl
theorem hg_L_Image (s : HS) (v : TS) : hL (hsImage s v) = hL s := rfl
theorem hg_L_Im (s : HS) (v : Int32) : hL (hsIm s v) = hL s := rfl
theorem hg_L_S (s : HS) (v : SS) : hL (hsS s v) = hL s := rfl
theorem hg_L_L (s : HS) (v : LtS) : hL (hsL s v) = v := rfl
theorem hg_L_Ro (s : HS) (v : Nat → Int32) : hL (hsRo s v) = hL s := rfl
theorem hg_L_Rl (s : HS) (v : Int32) : hL (hsRl s v) = hL s := rfl
theorem hg_L_Re (s : HS) (v : Nat → Int32) : hL (hsRe s v) = hL s := rfl
theorem hg_Ro_Now (s : HS) (v : TS) : hRo (hsNow s v) = hRo s := rfl
theorem hg_Ro_Mind (s : HS) (v : TS) : hRo (hsMind s v) = hRo s := rfl
theorem hg_Ro_Image (s : HS) (v : TS) : hRo (hsImage s v) = hRo s := rfl
theorem hg_Ro_Im (s : HS) (v : Int32) : hRo (hsIm s v) = hRo s := rfl
theorem hg_Ro_S (s : HS) (v : SS) : hRo (hsS s v) = hRo s := rfl
theorem hg_Ro_L (s : HS) (v : LtS) : hRo (hsL s v) = hRo s := rfl
theorem hg_Ro_Ro (s : HS) (v : Nat → Int32) : hRo (hsRo s v) = v := rfl
theorem hg_Ro_Rl (s : HS) (v : Int32) : hRo (hsRl s v) = hRo s := rfl
theorem hg_Ro_Re (s : HS) (v : Nat → Int32) : hRo (hsRe s v) = hRo s := rfl
theorem hg_Rl_Now (s : HS) (v : TS) : hRl (hsNow s v) = hRl s := rfl
theorem hg_Rl_Mind (s : HS) (v : TS) : hRl (hsMind s v) = hRl s := rfl
theorem hg_Rl_Image (s : HS) (v : TS) : hRl (hsImage s v) = hRl s := rfl
theorem hg_Rl_Im (s : HS) (v : Int32) : hRl (hsIm s v) = hRl s := rfl
theorem hg_Rl_S (s : HS) (v : SS) : hRl (hsS s v) = hRl s := rfl
theorem hg_Rl_L (s : HS) (v : LtS) : hRl (hsL s v) = hRl s := rfl
theorem hg_Rl_Ro (s : HS) (v : Nat → Int32) : hRl (hsRo s v) = hRl s := rfl
theorem hg_Rl_Rl (s : HS) (v : Int32) : hRl (hsRl s v) = v := rfl
theorem hg_Rl_Re (s : HS) (v : Nat → Int32) : hRl (hsRe s v) = hRl s := rfl
theorem hg_Re_Now (s : HS) (v : TS) : hRe (hsNow s v) = hRe s := rfl
theorem hg_Re_Mind (s : HS) (v : TS) : hRe (hsMind s v) = hRe s := rfl
theorem hg_Re_Image (s : HS) (v : TS) : hRe (hsImage s v) = hRe s := rfl
theorem hg_Re_Im (s : HS) (v : Int32) : hRe (hsIm s v) = hRe s := rfl
theorem hg_Re_S (s : HS) (v : SS) : hRe (hsS s v) = hRe s := rfl
theorem hg_Re_L (s : HS) (v : LtS) : hRe (hsL s v) = hRe s := rfl
theorem hg_Re_Ro (s : HS) (v : Nat → Int32) : hRe (hsRo s v) = hRe s := rfl
theorem hg_Re_Rl (s : HS) (v : Int32) : hRe (hsRl s v) = hRe s := rfl
theorem hg_Re_Re (s : HS) (v : Nat → Int32) : hRe (hsRe s v) = v := rfl
theorem he_Now (s : HS) : hsNow s (hNow s) = s := rfl
theorem ho_Now (s : HS) (v w : TS) : hsNow (hsNow s v) w = hsNow s w := rfl
theorem he_Mind (s : HS) : hsMind s (hMind s) = s := rfl
theorem ho_Mind (s : HS) (v w : TS) : hsMind (hsMind s v) w = hsMind s w := rfl
theorem he_Image (s : HS) : hsImage s (hImage s) = s := rfl
theorem ho_Image (s : HS) (v w : TS) : hsImage (hsImage s v) w = hsImage s w := rfl
theorem he_Im (s : HS) : hsIm s (hIm s) = s := rfl
theorem ho_Im (s : HS) (v w : Int32) : hsIm (hsIm s v) w = hsIm s w := rfl
theorem he_S (s : HS) : hsS s (hS s) = s := rfl
theorem ho_S (s : HS) (v w : SS) : hsS (hsS s v) w = hsS s w := rfl
theorem he_L (s : HS) : hsL s (hL s) = s := rfl
theorem ho_L (s : HS) (v w : LtS) : hsL (hsL s v) w = hsL s w := rfl
theorem he_Ro (s : HS) : hsRo s (hRo s) = s := rfl
theorem ho_Ro (s : HS) (v w : Nat → Int32) : hsRo (hsRo s v) w = hsRo s w := rfl
theorem he_Rl (s : HS) : hsRl s (hRl s) = s := rfl
theorem ho_Rl (s : HS) (v w : Int32) : hsRl (hsRl s v) w = hsRl s w := rfl
theorem he_Re (s : HS) : hsRe s (hRe s) = s := rfl
theorem ho_Re (s : HS) (v w : Nat → Int32) : hsRe (hsRe s v) w = hsRe s w := rfl
def taPt (s : TS) (i : Nat) (v : Int32) : TS := tsPt s (upd (tPt s) i v)
def taNt (s : TS) (i : Nat) (v : Int32) : TS := tsNt s (upd (tNt s) i v)
def taBt (s : TS) (i : Nat) (v : Int32) : TS := tsBt s (upd (tBt s) i v)
def taSe (s : TS) (i : Nat) (v : Int32) : TS := tsSe s (upd (tSe s) i v)
def eaNh (s : SS) (i : Nat) (v : Int32) : SS := esNh s (upd (eNh s) i v)
def eaGo (s : SS) (i : Nat) (v : Int32) : SS := esGo s (upd (eGo s) i v)
def eaSu (s : SS) (i : Nat) (v : Int32) : SS := esSu s (upd (eSu s) i v)
def eaSm (s : SS) (i : Nat) (v : Int64) : SS := esSm s (vp_updL (eSm s) i v)
def eaSk (s : SS) (i : Nat) (v : Int64) : SS := esSk s (vp_updL (eSk s) i v)
def laFd (s : LtS) (i : Nat) (v : Int32) : LtS := lsFd s (upd (lFd s) i v)
def haRo (s : HS) (i : Nat) (v : Int32) : HS := hsRo s (upd (hRo s) i v)
def haRe (s : HS) (i : Nat) (v : Int32) : HS := hsRe s (upd (hRe s) i v)
def cTPt (s : CS) : Nat → Int32 := tPt (cT s)
def csTPt (s : CS) (v : Nat → Int32) : CS := csT s (tsPt (cT s) v)
def cTPp (s : CS) : Int32 := tPp (cT s)
def csTPp (s : CS) (v : Int32) : CS := csT s (tsPp (cT s) v)
def cTNt (s : CS) : Nat → Int32 := tNt (cT s)
def csTNt (s : CS) (v : Nat → Int32) : CS := csT s (tsNt (cT s) v)
def cTNn (s : CS) : Int32 := tNn (cT s)
def csTNn (s : CS) (v : Int32) : CS := csT s (tsNn (cT s) v)
def cTBt (s : CS) : Nat → Int32 := tBt (cT s)
def csTBt (s : CS) (v : Nat → Int32) : CS := csT s (tsBt (cT s) v)
def cTHh (s : CS) : Int32 := tHh (cT s)
def csTHh (s : CS) (v : Int32) : CS := csT s (tsHh (cT s) v)
def cTSe (s : CS) : Nat → Int32 := tSe (cT s)
def csTSe (s : CS) (v : Nat → Int32) : CS := csT s (tsSe (cT s) v)
def cTYr (s : CS) : Int32 := tYr (cT s)
def csTYr (s : CS) (v : Int32) : CS := csT s (tsYr (cT s) v)
def caTPt (s : CS) (i : Nat) (v : Int32) : CS := csT s (taPt (cT s) i v)
def caTNt (s : CS) (i : Nat) (v : Int32) : CS := csT s (taNt (cT s) i v)
def caTBt (s : CS) (i : Nat) (v : Int32) : CS := csT s (taBt (cT s) i v)
def caTSe (s : CS) (i : Nat) (v : Int32) : CS := csT s (taSe (cT s) i v)
def fTPt (s : ET) : Nat → Int32 := tPt (fT s)
def fsTPt (s : ET) (v : Nat → Int32) : ET := fsT s (tsPt (fT s) v)
def fTPp (s : ET) : Int32 := tPp (fT s)
def fsTPp (s : ET) (v : Int32) : ET := fsT s (tsPp (fT s) v)
def fTNt (s : ET) : Nat → Int32 := tNt (fT s)
def fsTNt (s : ET) (v : Nat → Int32) : ET := fsT s (tsNt (fT s) v)
def fTNn (s : ET) : Int32 := tNn (fT s)
def fsTNn (s : ET) (v : Int32) : ET := fsT s (tsNn (fT s) v)
def fTBt (s : ET) : Nat → Int32 := tBt (fT s)
def fsTBt (s : ET) (v : Nat → Int32) : ET := fsT s (tsBt (fT s) v)
def fTHh (s : ET) : Int32 := tHh (fT s)
def fsTHh (s : ET) (v : Int32) : ET := fsT s (tsHh (fT s) v)
def fTSe (s : ET) : Nat → Int32 := tSe (fT s)
def fsTSe (s : ET) (v : Nat → Int32) : ET := fsT s (tsSe (fT s) v)
def fTYr (s : ET) : Int32 := tYr (fT s)
def fsTYr (s : ET) (v : Int32) : ET := fsT s (tsYr (fT s) v)
def faTPt (s : ET) (i : Nat) (v : Int32) : ET := fsT s (taPt (fT s) i v)
def faTNt (s : ET) (i : Nat) (v : Int32) : ET := fsT s (taNt (fT s) i v)
def faTBt (s : ET) (i : Nat) (v : Int32) : ET := fsT s (taBt (fT s) i v)
def faTSe (s : ET) (i : Nat) (v : Int32) : ET := fsT s (taSe (fT s) i v)
def fSNh (s : ET) : Nat → Int32 := eNh (fS s)
def fsSNh (s : ET) (v : Nat → Int32) : ET := fsS s (esNh (fS s) v)
def fSHd (s : ET) : Int32 := eHd (fS s)
def fsSHd (s : ET) (v : Int32) : ET := fsS s (esHd (fS s) v)
def fSGo (s : ET) : Nat → Int32 := eGo (fS s)
def fsSGo (s : ET) (v : Nat → Int32) : ET := fsS s (esGo (fS s) v)
def fSSm (s : ET) : Nat → Int64 := eSm (fS s)
def fsSSm (s : ET) (v : Nat → Int64) : ET := fsS s (esSm (fS s) v)
def fSSk (s : ET) : Nat → Int64 := eSk (fS s)
def fsSSk (s : ET) (v : Nat → Int64) : ET := fsS s (esSk (fS s) v)
def fSSu (s : ET) : Nat → Int32 := eSu (fS s)
def fsSSu (s : ET) (v : Nat → Int32) : ET := fsS s (esSu (fS s) v)
def fSFi (s : ET) : Int32 := eFi (fS s)
def fsSFi (s : ET) (v : Int32) : ET := fsS s (esFi (fS s) v)
def faSNh (s : ET) (i : Nat) (v : Int32) : ET := fsS s (eaNh (fS s) i v)
def faSGo (s : ET) (i : Nat) (v : Int32) : ET := fsS s (eaGo (fS s) i v)
def faSSu (s : ET) (i : Nat) (v : Int32) : ET := fsS s (eaSu (fS s) i v)
def faSSm (s : ET) (i : Nat) (v : Int64) : ET := fsS s (eaSm (fS s) i v)
def faSSk (s : ET) (i : Nat) (v : Int64) : ET := fsS s (eaSk (fS s) i v)
def mTPt (s : LT) : Nat → Int32 := tPt (mT s)
def msTPt (s : LT) (v : Nat → Int32) : LT := msT s (tsPt (mT s) v)
def mTPp (s : LT) : Int32 := tPp (mT s)
def msTPp (s : LT) (v : Int32) : LT := msT s (tsPp (mT s) v)
def mTNt (s : LT) : Nat → Int32 := tNt (mT s)
def msTNt (s : LT) (v : Nat → Int32) : LT := msT s (tsNt (mT s) v)
def mTNn (s : LT) : Int32 := tNn (mT s)
def msTNn (s : LT) (v : Int32) : LT := msT s (tsNn (mT s) v)
def mTBt (s : LT) : Nat → Int32 := tBt (mT s)
def msTBt (s : LT) (v : Nat → Int32) : LT := msT s (tsBt (mT s) v)
def mTHh (s : LT) : Int32 := tHh (mT s)
def msTHh (s : LT) (v : Int32) : LT := msT s (tsHh (mT s) v)
def mTSe (s : LT) : Nat → Int32 := tSe (mT s)
def msTSe (s : LT) (v : Nat → Int32) : LT := msT s (tsSe (mT s) v)
def mTYr (s : LT) : Int32 := tYr (mT s)
def msTYr (s : LT) (v : Int32) : LT := msT s (tsYr (mT s) v)
def maTPt (s : LT) (i : Nat) (v : Int32) : LT := msT s (taPt (mT s) i v)
def maTNt (s : LT) (i : Nat) (v : Int32) : LT := msT s (taNt (mT s) i v)
def maTBt (s : LT) (i : Nat) (v : Int32) : LT := msT s (taBt (mT s) i v)
def maTSe (s : LT) (i : Nat) (v : Int32) : LT := msT s (taSe (mT s) i v)
def mLFd (s : LT) : Nat → Int32 := lFd (mL s)
def msLFd (s : LT) (v : Nat → Int32) : LT := msL s (lsFd (mL s) v)
def mLLn (s : LT) : Int32 := lLn (mL s)
def msLLn (s : LT) (v : Int32) : LT := msL s (lsLn (mL s) v)
def maLFd (s : LT) (i : Nat) (v : Int32) : LT := msL s (laFd (mL s) i v)
def dAPt (s : DT) : Nat → Int32 := tPt (dA s)
def dsAPt (s : DT) (v : Nat → Int32) : DT := dsA s (tsPt (dA s) v)
def dAPp (s : DT) : Int32 := tPp (dA s)
def dsAPp (s : DT) (v : Int32) : DT := dsA s (tsPp (dA s) v)
def dANt (s : DT) : Nat → Int32 := tNt (dA s)
def dsANt (s : DT) (v : Nat → Int32) : DT := dsA s (tsNt (dA s) v)
def dANn (s : DT) : Int32 := tNn (dA s)
def dsANn (s : DT) (v : Int32) : DT := dsA s (tsNn (dA s) v)
def dABt (s : DT) : Nat → Int32 := tBt (dA s)
def dsABt (s : DT) (v : Nat → Int32) : DT := dsA s (tsBt (dA s) v)
def dAHh (s : DT) : Int32 := tHh (dA s)
def dsAHh (s : DT) (v : Int32) : DT := dsA s (tsHh (dA s) v)
def dASe (s : DT) : Nat → Int32 := tSe (dA s)
def dsASe (s : DT) (v : Nat → Int32) : DT := dsA s (tsSe (dA s) v)
def dAYr (s : DT) : Int32 := tYr (dA s)
def dsAYr (s : DT) (v : Int32) : DT := dsA s (tsYr (dA s) v)
def daAPt (s : DT) (i : Nat) (v : Int32) : DT := dsA s (taPt (dA s) i v)
def daANt (s : DT) (i : Nat) (v : Int32) : DT := dsA s (taNt (dA s) i v)
def daABt (s : DT) (i : Nat) (v : Int32) : DT := dsA s (taBt (dA s) i v)
def daASe (s : DT) (i : Nat) (v : Int32) : DT := dsA s (taSe (dA s) i v)
def dOPt (s : DT) : Nat → Int32 := tPt (dO s)
def dsOPt (s : DT) (v : Nat → Int32) : DT := dsO s (tsPt (dO s) v)
def dOPp (s : DT) : Int32 := tPp (dO s)
def dsOPp (s : DT) (v : Int32) : DT := dsO s (tsPp (dO s) v)
def dONt (s : DT) : Nat → Int32 := tNt (dO s)
def dsONt (s : DT) (v : Nat → Int32) : DT := dsO s (tsNt (dO s) v)
def dONn (s : DT) : Int32 := tNn (dO s)
def dsONn (s : DT) (v : Int32) : DT := dsO s (tsNn (dO s) v)
def dOBt (s : DT) : Nat → Int32 := tBt (dO s)
def dsOBt (s : DT) (v : Nat → Int32) : DT := dsO s (tsBt (dO s) v)
def dOHh (s : DT) : Int32 := tHh (dO s)
def dsOHh (s : DT) (v : Int32) : DT := dsO s (tsHh (dO s) v)
def dOSe (s : DT) : Nat → Int32 := tSe (dO s)
def dsOSe (s : DT) (v : Nat → Int32) : DT := dsO s (tsSe (dO s) v)
def dOYr (s : DT) : Int32 := tYr (dO s)
def dsOYr (s : DT) (v : Int32) : DT := dsO s (tsYr (dO s) v)
def daOPt (s : DT) (i : Nat) (v : Int32) : DT := dsO s (taPt (dO s) i v)
def daONt (s : DT) (i : Nat) (v : Int32) : DT := dsO s (taNt (dO s) i v)
def daOBt (s : DT) (i : Nat) (v : Int32) : DT := dsO s (taBt (dO s) i v)
def daOSe (s : DT) (i : Nat) (v : Int32) : DT := dsO s (taSe (dO s) i v)
def hNowPt (s : HS) : Nat → Int32 := tPt (hNow s)
def hsNowPt (s : HS) (v : Nat → Int32) : HS := hsNow s (tsPt (hNow s) v)
def hNowPp (s : HS) : Int32 := tPp (hNow s)
def hsNowPp (s : HS) (v : Int32) : HS := hsNow s (tsPp (hNow s) v)
def hNowNt (s : HS) : Nat → Int32 := tNt (hNow s)
def hsNowNt (s : HS) (v : Nat → Int32) : HS := hsNow s (tsNt (hNow s) v)
def hNowNn (s : HS) : Int32 := tNn (hNow s)
def hsNowNn (s : HS) (v : Int32) : HS := hsNow s (tsNn (hNow s) v)
def hNowBt (s : HS) : Nat → Int32 := tBt (hNow s)
def hsNowBt (s : HS) (v : Nat → Int32) : HS := hsNow s (tsBt (hNow s) v)
def hNowHh (s : HS) : Int32 := tHh (hNow s)
def hsNowHh (s : HS) (v : Int32) : HS := hsNow s (tsHh (hNow s) v)
def hNowSe (s : HS) : Nat → Int32 := tSe (hNow s)
def hsNowSe (s : HS) (v : Nat → Int32) : HS := hsNow s (tsSe (hNow s) v)
def hNowYr (s : HS) : Int32 := tYr (hNow s)
def hsNowYr (s : HS) (v : Int32) : HS := hsNow s (tsYr (hNow s) v)
def haNowPt (s : HS) (i : Nat) (v : Int32) : HS := hsNow s (taPt (hNow s) i v)
def haNowNt (s : HS) (i : Nat) (v : Int32) : HS := hsNow s (taNt (hNow s) i v)
def haNowBt (s : HS) (i : Nat) (v : Int32) : HS := hsNow s (taBt (hNow s) i v)
def haNowSe (s : HS) (i : Nat) (v : Int32) : HS := hsNow s (taSe (hNow s) i v)
def hMindPt (s : HS) : Nat → Int32 := tPt (hMind s)
def hsMindPt (s : HS) (v : Nat → Int32) : HS := hsMind s (tsPt (hMind s) v)
def hMindPp (s : HS) : Int32 := tPp (hMind s)
def hsMindPp (s : HS) (v : Int32) : HS := hsMind s (tsPp (hMind s) v)
def hMindNt (s : HS) : Nat → Int32 := tNt (hMind s)
def hsMindNt (s : HS) (v : Nat → Int32) : HS := hsMind s (tsNt (hMind s) v)
def hMindNn (s : HS) : Int32 := tNn (hMind s)
def hsMindNn (s : HS) (v : Int32) : HS := hsMind s (tsNn (hMind s) v)
def hMindBt (s : HS) : Nat → Int32 := tBt (hMind s)
def hsMindBt (s : HS) (v : Nat → Int32) : HS := hsMind s (tsBt (hMind s) v)
def hMindHh (s : HS) : Int32 := tHh (hMind s)
def hsMindHh (s : HS) (v : Int32) : HS := hsMind s (tsHh (hMind s) v)
def hMindSe (s : HS) : Nat → Int32 := tSe (hMind s)
def hsMindSe (s : HS) (v : Nat → Int32) : HS := hsMind s (tsSe (hMind s) v)
def hMindYr (s : HS) : Int32 := tYr (hMind s)
def hsMindYr (s : HS) (v : Int32) : HS := hsMind s (tsYr (hMind s) v)
def haMindPt (s : HS) (i : Nat) (v : Int32) : HS := hsMind s (taPt (hMind s) i v)
def haMindNt (s : HS) (i : Nat) (v : Int32) : HS := hsMind s (taNt (hMind s) i v)
def haMindBt (s : HS) (i : Nat) (v : Int32) : HS := hsMind s (taBt (hMind s) i v)
def haMindSe (s : HS) (i : Nat) (v : Int32) : HS := hsMind s (taSe (hMind s) i v)
def hImagePt (s : HS) : Nat → Int32 := tPt (hImage s)
def hsImagePt (s : HS) (v : Nat → Int32) : HS := hsImage s (tsPt (hImage s) v)
def hImagePp (s : HS) : Int32 := tPp (hImage s)
def hsImagePp (s : HS) (v : Int32) : HS := hsImage s (tsPp (hImage s) v)
def hImageNt (s : HS) : Nat → Int32 := tNt (hImage s)
def hsImageNt (s : HS) (v : Nat → Int32) : HS := hsImage s (tsNt (hImage s) v)
def hImageNn (s : HS) : Int32 := tNn (hImage s)
def hsImageNn (s : HS) (v : Int32) : HS := hsImage s (tsNn (hImage s) v)
def hImageBt (s : HS) : Nat → Int32 := tBt (hImage s)
def hsImageBt (s : HS) (v : Nat → Int32) : HS := hsImage s (tsBt (hImage s) v)
def hImageHh (s : HS) : Int32 := tHh (hImage s)
def hsImageHh (s : HS) (v : Int32) : HS := hsImage s (tsHh (hImage s) v)
def hImageSe (s : HS) : Nat → Int32 := tSe (hImage s)
def hsImageSe (s : HS) (v : Nat → Int32) : HS := hsImage s (tsSe (hImage s) v)
def hImageYr (s : HS) : Int32 := tYr (hImage s)
def hsImageYr (s : HS) (v : Int32) : HS := hsImage s (tsYr (hImage s) v)
def haImagePt (s : HS) (i : Nat) (v : Int32) : HS := hsImage s (taPt (hImage s) i v)
def haImageNt (s : HS) (i : Nat) (v : Int32) : HS := hsImage s (taNt (hImage s) i v)
def haImageBt (s : HS) (i : Nat) (v : Int32) : HS := hsImage s (taBt (hImage s) i v)
def haImageSe (s : HS) (i : Nat) (v : Int32) : HS := hsImage s (taSe (hImage s) i v)
def hSNh (s : HS) : Nat → Int32 := eNh (hS s)
def hsSNh (s : HS) (v : Nat → Int32) : HS := hsS s (esNh (hS s) v)
def hSHd (s : HS) : Int32 := eHd (hS s)
def hsSHd (s : HS) (v : Int32) : HS := hsS s (esHd (hS s) v)
def hSGo (s : HS) : Nat → Int32 := eGo (hS s)
def hsSGo (s : HS) (v : Nat → Int32) : HS := hsS s (esGo (hS s) v)
def hSSm (s : HS) : Nat → Int64 := eSm (hS s)
def hsSSm (s : HS) (v : Nat → Int64) : HS := hsS s (esSm (hS s) v)
def hSSk (s : HS) : Nat → Int64 := eSk (hS s)
def hsSSk (s : HS) (v : Nat → Int64) : HS := hsS s (esSk (hS s) v)
def hSSu (s : HS) : Nat → Int32 := eSu (hS s)
def hsSSu (s : HS) (v : Nat → Int32) : HS := hsS s (esSu (hS s) v)
def hSFi (s : HS) : Int32 := eFi (hS s)
def hsSFi (s : HS) (v : Int32) : HS := hsS s (esFi (hS s) v)
def haSNh (s : HS) (i : Nat) (v : Int32) : HS := hsS s (eaNh (hS s) i v)
def haSGo (s : HS) (i : Nat) (v : Int32) : HS := hsS s (eaGo (hS s) i v)
def haSSu (s : HS) (i : Nat) (v : Int32) : HS := hsS s (eaSu (hS s) i v)
def haSSm (s : HS) (i : Nat) (v : Int64) : HS := hsS s (eaSm (hS s) i v)
def haSSk (s : HS) (i : Nat) (v : Int64) : HS := hsS s (eaSk (hS s) i v)
def hLFd (s : HS) : Nat → Int32 := lFd (hL s)
def hsLFd (s : HS) (v : Nat → Int32) : HS := hsL s (lsFd (hL s) v)
def hLLn (s : HS) : Int32 := lLn (hL s)
def hsLLn (s : HS) (v : Int32) : HS := hsL s (lsLn (hL s) v)
def haLFd (s : HS) (i : Nat) (v : Int32) : HS := hsL s (laFd (hL s) i v)
def encT (B : Bx) (g : Nat → Nat) (t : Nat) (T : TS) : va_W := [(g t, .inr (2, [.ref (g (t + 1)), .int (tPp T), .ref (g (t + 2)), .int (tNn T), .ref (g (t + 3)), .int (tHh T), .ref (g (t + 4)), .int (tYr T)])), (g (t + 1), .inl (B.2.1, 42, .inl (tPt T))), (g (t + 2), .inl (B.2.1, 72, .inl (tNt T))), (g (t + 3), .inl (B.2.1, 1350, .inl (tBt T))), (g (t + 4), .inl (B.2.1, 4, .inl (tSe T)))]
def encS (B : Bx) (g : Nat → Nat) (S : SS) : va_W := [(g 16, .inr (1, [.ref (g 17), .int (eHd S), .ref (g 18), .ref (g 19), .ref (g 20), .ref (g 21), .int (eFi S)])), (g 17, .inl (B.2.1, 8, .inl (eNh S))), (g 18, .inl (B.2.1, 56, .inl (eGo S))), (g 19, .inl (B.2.2.1, 56, .inr (.inl (eSm S)))), (g 20, .inl (B.2.2.1, 1024, .inr (.inl (eSk S)))), (g 21, .inl (B.2.1, 1024, .inl (eSu S)))]
def encL (B : Bx) (g : Nat → Nat) (S : LtS) : va_W := [(g 22, .inr (0, [.ref (g 23), .int (lLn S)])), (g 23, .inl (B.2.1, 64, .inl (lFd S)))]
def encDT (B : Bx) (g : Nat → Nat) (t t2 : Nat) (S : DT) : va_W := [(g t, .inr (2, [.ref (g (t + 1)), .int (dAPp S), .ref (g (t + 2)), .int (dANn S), .ref (g (t + 3)), .int (dAHh S), .ref (g (t + 4)), .int (dAYr S)])), (g (t + 1), .inl (B.2.1, 42, .inl (dAPt S))), (g (t + 2), .inl (B.2.1, 72, .inl (dANt S))), (g (t + 3), .inl (B.2.1, 1350, .inl (dABt S))), (g (t + 4), .inl (B.2.1, 4, .inl (dASe S))), (g t2, .inr (2, [.ref (g (t2 + 1)), .int (dOPp S), .ref (g (t2 + 2)), .int (dONn S), .ref (g (t2 + 3)), .int (dOHh S), .ref (g (t2 + 4)), .int (dOYr S)])), (g (t2 + 1), .inl (B.2.1, 42, .inl (dOPt S))), (g (t2 + 2), .inl (B.2.1, 72, .inl (dONt S))), (g (t2 + 3), .inl (B.2.1, 1350, .inl (dOBt S))), (g (t2 + 4), .inl (B.2.1, 4, .inl (dOSe S)))]
def encST (B : Bx) (g : Nat → Nat) (t : Nat) (S : ET) : va_W := [(g 16, .inr (1, [.ref (g 17), .int (fSHd S), .ref (g 18), .ref (g 19), .ref (g 20), .ref (g 21), .int (fSFi S)])), (g 17, .inl (B.2.1, 8, .inl (fSNh S))), (g 18, .inl (B.2.1, 56, .inl (fSGo S))), (g 19, .inl (B.2.2.1, 56, .inr (.inl (fSSm S)))), (g 20, .inl (B.2.2.1, 1024, .inr (.inl (fSSk S)))), (g 21, .inl (B.2.1, 1024, .inl (fSSu S))), (g t, .inr (2, [.ref (g (t + 1)), .int (fTPp S), .ref (g (t + 2)), .int (fTNn S), .ref (g (t + 3)), .int (fTHh S), .ref (g (t + 4)), .int (fTYr S)])), (g (t + 1), .inl (B.2.1, 42, .inl (fTPt S))), (g (t + 2), .inl (B.2.1, 72, .inl (fTNt S))), (g (t + 3), .inl (B.2.1, 1350, .inl (fTBt S))), (g (t + 4), .inl (B.2.1, 4, .inl (fTSe S)))]
def encLT (B : Bx) (g : Nat → Nat) (t : Nat) (S : LT) : va_W := [(g 22, .inr (0, [.ref (g 23), .int (mLLn S)])), (g 23, .inl (B.2.1, 64, .inl (mLFd S))), (g t, .inr (2, [.ref (g (t + 1)), .int (mTPp S), .ref (g (t + 2)), .int (mTNn S), .ref (g (t + 3)), .int (mTHh S), .ref (g (t + 4)), .int (mTYr S)])), (g (t + 1), .inl (B.2.1, 42, .inl (mTPt S))), (g (t + 2), .inl (B.2.1, 72, .inl (mTNt S))), (g (t + 3), .inl (B.2.1, 1350, .inl (mTBt S))), (g (t + 4), .inl (B.2.1, 4, .inl (mTSe S)))]
def encC (B : Bx) (g : Nat → Nat) (t : Nat) (S : CS) : va_W := [(g 0, .inr (3, [.ref (g 1), .ref (g 6), .ref (g 11), .int (cIm S), .ref (g 16), .ref (g 22), .ref (g 24), .int (cRl S), .ref (g 25)])), (g 24, .inl (B.2.1, 10, .inl (cRo S))), (g t, .inr (2, [.ref (g (t + 1)), .int (cTPp S), .ref (g (t + 2)), .int (cTNn S), .ref (g (t + 3)), .int (cTHh S), .ref (g (t + 4)), .int (cTYr S)])), (g (t + 1), .inl (B.2.1, 42, .inl (cTPt S))), (g (t + 2), .inl (B.2.1, 72, .inl (cTNt S))), (g (t + 3), .inl (B.2.1, 1350, .inl (cTBt S))), (g (t + 4), .inl (B.2.1, 4, .inl (cTSe S)))]
def encH (B : Bx) (g : Nat → Nat) (S : HS) : va_W := [(g 0, .inr (3, [.ref (g 1), .ref (g 6), .ref (g 11), .int (hIm S), .ref (g 16), .ref (g 22), .ref (g 24), .int (hRl S), .ref (g 25)])), (g 1, .inr (2, [.ref (g (1 + 1)), .int (hNowPp S), .ref (g (1 + 2)), .int (hNowNn S), .ref (g (1 + 3)), .int (hNowHh S), .ref (g (1 + 4)), .int (hNowYr S)])), (g (1 + 1), .inl (B.2.1, 42, .inl (hNowPt S))), (g (1 + 2), .inl (B.2.1, 72, .inl (hNowNt S))), (g (1 + 3), .inl (B.2.1, 1350, .inl (hNowBt S))), (g (1 + 4), .inl (B.2.1, 4, .inl (hNowSe S))), (g 6, .inr (2, [.ref (g (6 + 1)), .int (hMindPp S), .ref (g (6 + 2)), .int (hMindNn S), .ref (g (6 + 3)), .int (hMindHh S), .ref (g (6 + 4)), .int (hMindYr S)])), (g (6 + 1), .inl (B.2.1, 42, .inl (hMindPt S))), (g (6 + 2), .inl (B.2.1, 72, .inl (hMindNt S))), (g (6 + 3), .inl (B.2.1, 1350, .inl (hMindBt S))), (g (6 + 4), .inl (B.2.1, 4, .inl (hMindSe S))), (g 11, .inr (2, [.ref (g (11 + 1)), .int (hImagePp S), .ref (g (11 + 2)), .int (hImageNn S), .ref (g (11 + 3)), .int (hImageHh S), .ref (g (11 + 4)), .int (hImageYr S)])), (g (11 + 1), .inl (B.2.1, 42, .inl (hImagePt S))), (g (11 + 2), .inl (B.2.1, 72, .inl (hImageNt S))), (g (11 + 3), .inl (B.2.1, 1350, .inl (hImageBt S))), (g (11 + 4), .inl (B.2.1, 4, .inl (hImageSe S))), (g 16, .inr (1, [.ref (g 17), .int (hSHd S), .ref (g 18), .ref (g 19), .ref (g 20), .ref (g 21), .int (hSFi S)])), (g 17, .inl (B.2.1, 8, .inl (hSNh S))), (g 18, .inl (B.2.1, 56, .inl (hSGo S))), (g 19, .inl (B.2.2.1, 56, .inr (.inl (hSSm S)))), (g 20, .inl (B.2.2.1, 1024, .inr (.inl (hSSk S)))), (g 21, .inl (B.2.1, 1024, .inl (hSSu S))), (g 22, .inr (0, [.ref (g 23), .int (hLLn S)])), (g 23, .inl (B.2.1, 64, .inl (hLFd S))), (g 24, .inl (B.2.1, 10, .inl (hRo S))), (g 25, .inl (B.2.1, 7, .inl (hRe S)))]
def encE (_ : Unit) : va_W := []
def cf_R {σ : Type} (b0 : Nat) (pre : σ → Prop) (f : σ → Option Value) (g : σ → σ) : CF σ := (fun av s => match av with | [.ref a0] => a0 = b0 ∧ pre s | _ => False, fun av s => match av with | [.ref a0] => f s | _ => none, fun av s => match av with | [.ref a0] => g s | _ => s)
theorem cf_R_e {σ σc : Type} {a0 b0 : Nat} {pre : σc → Prop} {f : σc → Option Value} {g : σc → σc} {get : σ → σc} {set : σ → σc → σ} {P : PT σ} {L : Lc} {r : List Value} {s : σ} : wCallR 1 (cf_R b0 pre f g) get set P L (.ref a0 :: r) s = (restOK r ∧ (a0 = b0 ∧ pre (get s)) ∧ P L ((f (get s) ).toList ++ r) (set s (g (get s) ))) := rfl
theorem cf_R_r {σ : Type} (b0 : Nat) (pre : σ → Prop) (f : σ → Option Value) (g : σ → σ) : ∀ av s, (cf_R b0 pre f g).1 av s → ∃ As, av = .ref b0 :: As ∧ As.length = 0 := by
  intro av s h
  simp only [cf_R] at h
  split at h
  · obtain ⟨rfl, -⟩ := h
    exact ⟨_, rfl, rfl⟩
  · exact h.elim
theorem cf_R_i {σ : Type} {G : Gx} {y : MethodName} {ws : List Cond} {rm : Room} {enc : σ → va_W} {b0 : Nat} {pre : σ → Prop} {f : σ → Option Value} {g : σ → σ} (h : ∀ (l : Launch) (s : σ), pre s → Mt l G y ws rm enc [.ref b0] s (fun o u => o = f s ∧ u = g s)) : MtF G y ws rm enc (cf_R b0 pre f g) := by
  intro l av s hp
  simp only [cf_R] at hp
  split at hp
  · obtain ⟨rfl, hp⟩ := hp
    exact h l s  hp
  · exact hp.elim
def cf_RI {σ : Type} (b0 : Nat) (pre : σ → Int32 → Prop) (f : σ → Int32 → Option Value) (g : σ → Int32 → σ) : CF σ := (fun av s => match av with | [.ref a0, .int x1] => a0 = b0 ∧ pre s x1 | _ => False, fun av s => match av with | [.ref a0, .int x1] => f s x1 | _ => none, fun av s => match av with | [.ref a0, .int x1] => g s x1 | _ => s)
theorem cf_RI_e {σ σc : Type} {a0 b0 : Nat} {x1 : Int32} {pre : σc → Int32 → Prop} {f : σc → Int32 → Option Value} {g : σc → Int32 → σc} {get : σ → σc} {set : σ → σc → σ} {P : PT σ} {L : Lc} {r : List Value} {s : σ} : wCallR 2 (cf_RI b0 pre f g) get set P L (.int x1 :: .ref a0 :: r) s = (restOK r ∧ (a0 = b0 ∧ pre (get s) x1) ∧ P L ((f (get s) x1).toList ++ r) (set s (g (get s) x1))) := rfl
theorem cf_RI_r {σ : Type} (b0 : Nat) (pre : σ → Int32 → Prop) (f : σ → Int32 → Option Value) (g : σ → Int32 → σ) : ∀ av s, (cf_RI b0 pre f g).1 av s → ∃ As, av = .ref b0 :: As ∧ As.length = 1 := by
  intro av s h
  simp only [cf_RI] at h
  split at h
  · obtain ⟨rfl, -⟩ := h
    exact ⟨_, rfl, rfl⟩
  · exact h.elim
theorem cf_RI_i {σ : Type} {G : Gx} {y : MethodName} {ws : List Cond} {rm : Room} {enc : σ → va_W} {b0 : Nat} {pre : σ → Int32 → Prop} {f : σ → Int32 → Option Value} {g : σ → Int32 → σ} (h : ∀ (l : Launch) (s : σ) (x1 : Int32), pre s x1 → Mt l G y ws rm enc [.ref b0, .int x1] s (fun o u => o = f s x1 ∧ u = g s x1)) : MtF G y ws rm enc (cf_RI b0 pre f g) := by
  intro l av s hp
  simp only [cf_RI] at hp
  split at hp
  · obtain ⟨rfl, hp⟩ := hp
    exact h l s _ hp
  · exact hp.elim
def cf_RII {σ : Type} (b0 : Nat) (pre : σ → Int32 → Int32 → Prop) (f : σ → Int32 → Int32 → Option Value) (g : σ → Int32 → Int32 → σ) : CF σ := (fun av s => match av with | [.ref a0, .int x1, .int x2] => a0 = b0 ∧ pre s x1 x2 | _ => False, fun av s => match av with | [.ref a0, .int x1, .int x2] => f s x1 x2 | _ => none, fun av s => match av with | [.ref a0, .int x1, .int x2] => g s x1 x2 | _ => s)
theorem cf_RII_e {σ σc : Type} {a0 b0 : Nat} {x1 : Int32} {x2 : Int32} {pre : σc → Int32 → Int32 → Prop} {f : σc → Int32 → Int32 → Option Value} {g : σc → Int32 → Int32 → σc} {get : σ → σc} {set : σ → σc → σ} {P : PT σ} {L : Lc} {r : List Value} {s : σ} : wCallR 3 (cf_RII b0 pre f g) get set P L (.int x2 :: .int x1 :: .ref a0 :: r) s = (restOK r ∧ (a0 = b0 ∧ pre (get s) x1 x2) ∧ P L ((f (get s) x1 x2).toList ++ r) (set s (g (get s) x1 x2))) := rfl
theorem cf_RII_r {σ : Type} (b0 : Nat) (pre : σ → Int32 → Int32 → Prop) (f : σ → Int32 → Int32 → Option Value) (g : σ → Int32 → Int32 → σ) : ∀ av s, (cf_RII b0 pre f g).1 av s → ∃ As, av = .ref b0 :: As ∧ As.length = 2 := by
  intro av s h
  simp only [cf_RII] at h
  split at h
  · obtain ⟨rfl, -⟩ := h
    exact ⟨_, rfl, rfl⟩
  · exact h.elim
theorem cf_RII_i {σ : Type} {G : Gx} {y : MethodName} {ws : List Cond} {rm : Room} {enc : σ → va_W} {b0 : Nat} {pre : σ → Int32 → Int32 → Prop} {f : σ → Int32 → Int32 → Option Value} {g : σ → Int32 → Int32 → σ} (h : ∀ (l : Launch) (s : σ) (x1 : Int32) (x2 : Int32), pre s x1 x2 → Mt l G y ws rm enc [.ref b0, .int x1, .int x2] s (fun o u => o = f s x1 x2 ∧ u = g s x1 x2)) : MtF G y ws rm enc (cf_RII b0 pre f g) := by
  intro l av s hp
  simp only [cf_RII] at hp
  split at hp
  · obtain ⟨rfl, hp⟩ := hp
    exact h l s _ _ hp
  · exact hp.elim
def cf_RIII {σ : Type} (b0 : Nat) (pre : σ → Int32 → Int32 → Int32 → Prop) (f : σ → Int32 → Int32 → Int32 → Option Value) (g : σ → Int32 → Int32 → Int32 → σ) : CF σ := (fun av s => match av with | [.ref a0, .int x1, .int x2, .int x3] => a0 = b0 ∧ pre s x1 x2 x3 | _ => False, fun av s => match av with | [.ref a0, .int x1, .int x2, .int x3] => f s x1 x2 x3 | _ => none, fun av s => match av with | [.ref a0, .int x1, .int x2, .int x3] => g s x1 x2 x3 | _ => s)
theorem cf_RIII_e {σ σc : Type} {a0 b0 : Nat} {x1 : Int32} {x2 : Int32} {x3 : Int32} {pre : σc → Int32 → Int32 → Int32 → Prop} {f : σc → Int32 → Int32 → Int32 → Option Value} {g : σc → Int32 → Int32 → Int32 → σc} {get : σ → σc} {set : σ → σc → σ} {P : PT σ} {L : Lc} {r : List Value} {s : σ} : wCallR 4 (cf_RIII b0 pre f g) get set P L (.int x3 :: .int x2 :: .int x1 :: .ref a0 :: r) s = (restOK r ∧ (a0 = b0 ∧ pre (get s) x1 x2 x3) ∧ P L ((f (get s) x1 x2 x3).toList ++ r) (set s (g (get s) x1 x2 x3))) := rfl
theorem cf_RIII_r {σ : Type} (b0 : Nat) (pre : σ → Int32 → Int32 → Int32 → Prop) (f : σ → Int32 → Int32 → Int32 → Option Value) (g : σ → Int32 → Int32 → Int32 → σ) : ∀ av s, (cf_RIII b0 pre f g).1 av s → ∃ As, av = .ref b0 :: As ∧ As.length = 3 := by
  intro av s h
  simp only [cf_RIII] at h
  split at h
  · obtain ⟨rfl, -⟩ := h
    exact ⟨_, rfl, rfl⟩
  · exact h.elim
theorem cf_RIII_i {σ : Type} {G : Gx} {y : MethodName} {ws : List Cond} {rm : Room} {enc : σ → va_W} {b0 : Nat} {pre : σ → Int32 → Int32 → Int32 → Prop} {f : σ → Int32 → Int32 → Int32 → Option Value} {g : σ → Int32 → Int32 → Int32 → σ} (h : ∀ (l : Launch) (s : σ) (x1 : Int32) (x2 : Int32) (x3 : Int32), pre s x1 x2 x3 → Mt l G y ws rm enc [.ref b0, .int x1, .int x2, .int x3] s (fun o u => o = f s x1 x2 x3 ∧ u = g s x1 x2 x3)) : MtF G y ws rm enc (cf_RIII b0 pre f g) := by
  intro l av s hp
  simp only [cf_RIII] at hp
  split at hp
  · obtain ⟨rfl, hp⟩ := hp
    exact h l s _ _ _ hp
  · exact hp.elim
def cf_RIIII {σ : Type} (b0 : Nat) (pre : σ → Int32 → Int32 → Int32 → Int32 → Prop) (f : σ → Int32 → Int32 → Int32 → Int32 → Option Value) (g : σ → Int32 → Int32 → Int32 → Int32 → σ) : CF σ := (fun av s => match av with | [.ref a0, .int x1, .int x2, .int x3, .int x4] => a0 = b0 ∧ pre s x1 x2 x3 x4 | _ => False, fun av s => match av with | [.ref a0, .int x1, .int x2, .int x3, .int x4] => f s x1 x2 x3 x4 | _ => none, fun av s => match av with | [.ref a0, .int x1, .int x2, .int x3, .int x4] => g s x1 x2 x3 x4 | _ => s)
theorem cf_RIIII_e {σ σc : Type} {a0 b0 : Nat} {x1 : Int32} {x2 : Int32} {x3 : Int32} {x4 : Int32} {pre : σc → Int32 → Int32 → Int32 → Int32 → Prop} {f : σc → Int32 → Int32 → Int32 → Int32 → Option Value} {g : σc → Int32 → Int32 → Int32 → Int32 → σc} {get : σ → σc} {set : σ → σc → σ} {P : PT σ} {L : Lc} {r : List Value} {s : σ} : wCallR 5 (cf_RIIII b0 pre f g) get set P L (.int x4 :: .int x3 :: .int x2 :: .int x1 :: .ref a0 :: r) s = (restOK r ∧ (a0 = b0 ∧ pre (get s) x1 x2 x3 x4) ∧ P L ((f (get s) x1 x2 x3 x4).toList ++ r) (set s (g (get s) x1 x2 x3 x4))) := rfl
theorem cf_RIIII_r {σ : Type} (b0 : Nat) (pre : σ → Int32 → Int32 → Int32 → Int32 → Prop) (f : σ → Int32 → Int32 → Int32 → Int32 → Option Value) (g : σ → Int32 → Int32 → Int32 → Int32 → σ) : ∀ av s, (cf_RIIII b0 pre f g).1 av s → ∃ As, av = .ref b0 :: As ∧ As.length = 4 := by
  intro av s h
  simp only [cf_RIIII] at h
  split at h
  · obtain ⟨rfl, -⟩ := h
    exact ⟨_, rfl, rfl⟩
  · exact h.elim
theorem cf_RIIII_i {σ : Type} {G : Gx} {y : MethodName} {ws : List Cond} {rm : Room} {enc : σ → va_W} {b0 : Nat} {pre : σ → Int32 → Int32 → Int32 → Int32 → Prop} {f : σ → Int32 → Int32 → Int32 → Int32 → Option Value} {g : σ → Int32 → Int32 → Int32 → Int32 → σ} (h : ∀ (l : Launch) (s : σ) (x1 : Int32) (x2 : Int32) (x3 : Int32) (x4 : Int32), pre s x1 x2 x3 x4 → Mt l G y ws rm enc [.ref b0, .int x1, .int x2, .int x3, .int x4] s (fun o u => o = f s x1 x2 x3 x4 ∧ u = g s x1 x2 x3 x4)) : MtF G y ws rm enc (cf_RIIII b0 pre f g) := by
  intro l av s hp
  simp only [cf_RIIII] at hp
  split at hp
  · obtain ⟨rfl, hp⟩ := hp
    exact h l s _ _ _ _ hp
  · exact hp.elim
def cf_RRI {σ : Type} (b0 : Nat) (b1 : Nat) (pre : σ → Int32 → Prop) (f : σ → Int32 → Option Value) (g : σ → Int32 → σ) : CF σ := (fun av s => match av with | [.ref a0, .ref a1, .int x2] => a0 = b0 ∧ a1 = b1 ∧ pre s x2 | _ => False, fun av s => match av with | [.ref a0, .ref a1, .int x2] => f s x2 | _ => none, fun av s => match av with | [.ref a0, .ref a1, .int x2] => g s x2 | _ => s)
theorem cf_RRI_e {σ σc : Type} {a0 b0 : Nat} {a1 b1 : Nat} {x2 : Int32} {pre : σc → Int32 → Prop} {f : σc → Int32 → Option Value} {g : σc → Int32 → σc} {get : σ → σc} {set : σ → σc → σ} {P : PT σ} {L : Lc} {r : List Value} {s : σ} : wCallR 3 (cf_RRI b0 b1 pre f g) get set P L (.int x2 :: .ref a1 :: .ref a0 :: r) s = (restOK r ∧ (a0 = b0 ∧ a1 = b1 ∧ pre (get s) x2) ∧ P L ((f (get s) x2).toList ++ r) (set s (g (get s) x2))) := rfl
theorem cf_RRI_r {σ : Type} (b0 : Nat) (b1 : Nat) (pre : σ → Int32 → Prop) (f : σ → Int32 → Option Value) (g : σ → Int32 → σ) : ∀ av s, (cf_RRI b0 b1 pre f g).1 av s → ∃ As, av = .ref b0 :: As ∧ As.length = 2 := by
  intro av s h
  simp only [cf_RRI] at h
  split at h
  · obtain ⟨rfl, -⟩ := h
    exact ⟨_, rfl, rfl⟩
  · exact h.elim
theorem cf_RRI_i {σ : Type} {G : Gx} {y : MethodName} {ws : List Cond} {rm : Room} {enc : σ → va_W} {b0 b1 : Nat} {pre : σ → Int32 → Prop} {f : σ → Int32 → Option Value} {g : σ → Int32 → σ} (h : ∀ (l : Launch) (s : σ) (x2 : Int32), pre s x2 → Mt l G y ws rm enc [.ref b0, .ref b1, .int x2] s (fun o u => o = f s x2 ∧ u = g s x2)) : MtF G y ws rm enc (cf_RRI b0 b1 pre f g) := by
  intro l av s hp
  simp only [cf_RRI] at hp
  split at hp
  · obtain ⟨rfl, rfl, hp⟩ := hp
    exact h l s _ hp
  · exact hp.elim
def cf_RRII {σ : Type} (b0 : Nat) (b1 : Nat) (pre : σ → Int32 → Int32 → Prop) (f : σ → Int32 → Int32 → Option Value) (g : σ → Int32 → Int32 → σ) : CF σ := (fun av s => match av with | [.ref a0, .ref a1, .int x2, .int x3] => a0 = b0 ∧ a1 = b1 ∧ pre s x2 x3 | _ => False, fun av s => match av with | [.ref a0, .ref a1, .int x2, .int x3] => f s x2 x3 | _ => none, fun av s => match av with | [.ref a0, .ref a1, .int x2, .int x3] => g s x2 x3 | _ => s)
theorem cf_RRII_e {σ σc : Type} {a0 b0 : Nat} {a1 b1 : Nat} {x2 : Int32} {x3 : Int32} {pre : σc → Int32 → Int32 → Prop} {f : σc → Int32 → Int32 → Option Value} {g : σc → Int32 → Int32 → σc} {get : σ → σc} {set : σ → σc → σ} {P : PT σ} {L : Lc} {r : List Value} {s : σ} : wCallR 4 (cf_RRII b0 b1 pre f g) get set P L (.int x3 :: .int x2 :: .ref a1 :: .ref a0 :: r) s = (restOK r ∧ (a0 = b0 ∧ a1 = b1 ∧ pre (get s) x2 x3) ∧ P L ((f (get s) x2 x3).toList ++ r) (set s (g (get s) x2 x3))) := rfl
theorem cf_RRII_r {σ : Type} (b0 : Nat) (b1 : Nat) (pre : σ → Int32 → Int32 → Prop) (f : σ → Int32 → Int32 → Option Value) (g : σ → Int32 → Int32 → σ) : ∀ av s, (cf_RRII b0 b1 pre f g).1 av s → ∃ As, av = .ref b0 :: As ∧ As.length = 3 := by
  intro av s h
  simp only [cf_RRII] at h
  split at h
  · obtain ⟨rfl, -⟩ := h
    exact ⟨_, rfl, rfl⟩
  · exact h.elim
theorem cf_RRII_i {σ : Type} {G : Gx} {y : MethodName} {ws : List Cond} {rm : Room} {enc : σ → va_W} {b0 b1 : Nat} {pre : σ → Int32 → Int32 → Prop} {f : σ → Int32 → Int32 → Option Value} {g : σ → Int32 → Int32 → σ} (h : ∀ (l : Launch) (s : σ) (x2 : Int32) (x3 : Int32), pre s x2 x3 → Mt l G y ws rm enc [.ref b0, .ref b1, .int x2, .int x3] s (fun o u => o = f s x2 x3 ∧ u = g s x2 x3)) : MtF G y ws rm enc (cf_RRII b0 b1 pre f g) := by
  intro l av s hp
  simp only [cf_RRII] at hp
  split at hp
  · obtain ⟨rfl, rfl, hp⟩ := hp
    exact h l s _ _ hp
  · exact hp.elim
def cf_RR {σ : Type} (b0 : Nat) (b1 : Nat) (pre : σ → Prop) (f : σ → Option Value) (g : σ → σ) : CF σ := (fun av s => match av with | [.ref a0, .ref a1] => a0 = b0 ∧ a1 = b1 ∧ pre s | _ => False, fun av s => match av with | [.ref a0, .ref a1] => f s | _ => none, fun av s => match av with | [.ref a0, .ref a1] => g s | _ => s)
theorem cf_RR_e {σ σc : Type} {a0 b0 : Nat} {a1 b1 : Nat} {pre : σc → Prop} {f : σc → Option Value} {g : σc → σc} {get : σ → σc} {set : σ → σc → σ} {P : PT σ} {L : Lc} {r : List Value} {s : σ} : wCallR 2 (cf_RR b0 b1 pre f g) get set P L (.ref a1 :: .ref a0 :: r) s = (restOK r ∧ (a0 = b0 ∧ a1 = b1 ∧ pre (get s)) ∧ P L ((f (get s) ).toList ++ r) (set s (g (get s) ))) := rfl
theorem cf_RR_r {σ : Type} (b0 : Nat) (b1 : Nat) (pre : σ → Prop) (f : σ → Option Value) (g : σ → σ) : ∀ av s, (cf_RR b0 b1 pre f g).1 av s → ∃ As, av = .ref b0 :: As ∧ As.length = 1 := by
  intro av s h
  simp only [cf_RR] at h
  split at h
  · obtain ⟨rfl, -⟩ := h
    exact ⟨_, rfl, rfl⟩
  · exact h.elim
theorem cf_RR_i {σ : Type} {G : Gx} {y : MethodName} {ws : List Cond} {rm : Room} {enc : σ → va_W} {b0 b1 : Nat} {pre : σ → Prop} {f : σ → Option Value} {g : σ → σ} (h : ∀ (l : Launch) (s : σ), pre s → Mt l G y ws rm enc [.ref b0, .ref b1] s (fun o u => o = f s ∧ u = g s)) : MtF G y ws rm enc (cf_RR b0 b1 pre f g) := by
  intro l av s hp
  simp only [cf_RR] at hp
  split at hp
  · obtain ⟨rfl, rfl, hp⟩ := hp
    exact h l s  hp
  · exact hp.elim
def cf_RRIJ {σ : Type} (b0 : Nat) (b1 : Nat) (pre : σ → Int32 → Int64 → Prop) (f : σ → Int32 → Int64 → Option Value) (g : σ → Int32 → Int64 → σ) : CF σ := (fun av s => match av with | [.ref a0, .ref a1, .int x2, .long x3] => a0 = b0 ∧ a1 = b1 ∧ pre s x2 x3 | _ => False, fun av s => match av with | [.ref a0, .ref a1, .int x2, .long x3] => f s x2 x3 | _ => none, fun av s => match av with | [.ref a0, .ref a1, .int x2, .long x3] => g s x2 x3 | _ => s)
theorem cf_RRIJ_e {σ σc : Type} {a0 b0 : Nat} {a1 b1 : Nat} {x2 : Int32} {x3 : Int64} {pre : σc → Int32 → Int64 → Prop} {f : σc → Int32 → Int64 → Option Value} {g : σc → Int32 → Int64 → σc} {get : σ → σc} {set : σ → σc → σ} {P : PT σ} {L : Lc} {r : List Value} {s : σ} : wCallR 4 (cf_RRIJ b0 b1 pre f g) get set P L (.long x3 :: .int x2 :: .ref a1 :: .ref a0 :: r) s = (restOK r ∧ (a0 = b0 ∧ a1 = b1 ∧ pre (get s) x2 x3) ∧ P L ((f (get s) x2 x3).toList ++ r) (set s (g (get s) x2 x3))) := rfl
theorem cf_RRIJ_r {σ : Type} (b0 : Nat) (b1 : Nat) (pre : σ → Int32 → Int64 → Prop) (f : σ → Int32 → Int64 → Option Value) (g : σ → Int32 → Int64 → σ) : ∀ av s, (cf_RRIJ b0 b1 pre f g).1 av s → ∃ As, av = .ref b0 :: As ∧ As.length = 3 := by
  intro av s h
  simp only [cf_RRIJ] at h
  split at h
  · obtain ⟨rfl, -⟩ := h
    exact ⟨_, rfl, rfl⟩
  · exact h.elim
theorem cf_RRIJ_i {σ : Type} {G : Gx} {y : MethodName} {ws : List Cond} {rm : Room} {enc : σ → va_W} {b0 b1 : Nat} {pre : σ → Int32 → Int64 → Prop} {f : σ → Int32 → Int64 → Option Value} {g : σ → Int32 → Int64 → σ} (h : ∀ (l : Launch) (s : σ) (x2 : Int32) (x3 : Int64), pre s x2 x3 → Mt l G y ws rm enc [.ref b0, .ref b1, .int x2, .long x3] s (fun o u => o = f s x2 x3 ∧ u = g s x2 x3)) : MtF G y ws rm enc (cf_RRIJ b0 b1 pre f g) := by
  intro l av s hp
  simp only [cf_RRIJ] at hp
  split at hp
  · obtain ⟨rfl, rfl, hp⟩ := hp
    exact h l s _ _ hp
  · exact hp.elim
def cf_RIIJ {σ : Type} (b0 : Nat) (pre : σ → Int32 → Int32 → Int64 → Prop) (f : σ → Int32 → Int32 → Int64 → Option Value) (g : σ → Int32 → Int32 → Int64 → σ) : CF σ := (fun av s => match av with | [.ref a0, .int x1, .int x2, .long x3] => a0 = b0 ∧ pre s x1 x2 x3 | _ => False, fun av s => match av with | [.ref a0, .int x1, .int x2, .long x3] => f s x1 x2 x3 | _ => none, fun av s => match av with | [.ref a0, .int x1, .int x2, .long x3] => g s x1 x2 x3 | _ => s)
theorem cf_RIIJ_e {σ σc : Type} {a0 b0 : Nat} {x1 : Int32} {x2 : Int32} {x3 : Int64} {pre : σc → Int32 → Int32 → Int64 → Prop} {f : σc → Int32 → Int32 → Int64 → Option Value} {g : σc → Int32 → Int32 → Int64 → σc} {get : σ → σc} {set : σ → σc → σ} {P : PT σ} {L : Lc} {r : List Value} {s : σ} : wCallR 4 (cf_RIIJ b0 pre f g) get set P L (.long x3 :: .int x2 :: .int x1 :: .ref a0 :: r) s = (restOK r ∧ (a0 = b0 ∧ pre (get s) x1 x2 x3) ∧ P L ((f (get s) x1 x2 x3).toList ++ r) (set s (g (get s) x1 x2 x3))) := rfl
theorem cf_RIIJ_r {σ : Type} (b0 : Nat) (pre : σ → Int32 → Int32 → Int64 → Prop) (f : σ → Int32 → Int32 → Int64 → Option Value) (g : σ → Int32 → Int32 → Int64 → σ) : ∀ av s, (cf_RIIJ b0 pre f g).1 av s → ∃ As, av = .ref b0 :: As ∧ As.length = 3 := by
  intro av s h
  simp only [cf_RIIJ] at h
  split at h
  · obtain ⟨rfl, -⟩ := h
    exact ⟨_, rfl, rfl⟩
  · exact h.elim
theorem cf_RIIJ_i {σ : Type} {G : Gx} {y : MethodName} {ws : List Cond} {rm : Room} {enc : σ → va_W} {b0 : Nat} {pre : σ → Int32 → Int32 → Int64 → Prop} {f : σ → Int32 → Int32 → Int64 → Option Value} {g : σ → Int32 → Int32 → Int64 → σ} (h : ∀ (l : Launch) (s : σ) (x1 : Int32) (x2 : Int32) (x3 : Int64), pre s x1 x2 x3 → Mt l G y ws rm enc [.ref b0, .int x1, .int x2, .long x3] s (fun o u => o = f s x1 x2 x3 ∧ u = g s x1 x2 x3)) : MtF G y ws rm enc (cf_RIIJ b0 pre f g) := by
  intro l av s hp
  simp only [cf_RIIJ] at hp
  split at hp
  · obtain ⟨rfl, hp⟩ := hp
    exact h l s _ _ _ hp
  · exact hp.elim
def cf_RIJ {σ : Type} (b0 : Nat) (pre : σ → Int32 → Int64 → Prop) (f : σ → Int32 → Int64 → Option Value) (g : σ → Int32 → Int64 → σ) : CF σ := (fun av s => match av with | [.ref a0, .int x1, .long x2] => a0 = b0 ∧ pre s x1 x2 | _ => False, fun av s => match av with | [.ref a0, .int x1, .long x2] => f s x1 x2 | _ => none, fun av s => match av with | [.ref a0, .int x1, .long x2] => g s x1 x2 | _ => s)
theorem cf_RIJ_e {σ σc : Type} {a0 b0 : Nat} {x1 : Int32} {x2 : Int64} {pre : σc → Int32 → Int64 → Prop} {f : σc → Int32 → Int64 → Option Value} {g : σc → Int32 → Int64 → σc} {get : σ → σc} {set : σ → σc → σ} {P : PT σ} {L : Lc} {r : List Value} {s : σ} : wCallR 3 (cf_RIJ b0 pre f g) get set P L (.long x2 :: .int x1 :: .ref a0 :: r) s = (restOK r ∧ (a0 = b0 ∧ pre (get s) x1 x2) ∧ P L ((f (get s) x1 x2).toList ++ r) (set s (g (get s) x1 x2))) := rfl
theorem cf_RIJ_r {σ : Type} (b0 : Nat) (pre : σ → Int32 → Int64 → Prop) (f : σ → Int32 → Int64 → Option Value) (g : σ → Int32 → Int64 → σ) : ∀ av s, (cf_RIJ b0 pre f g).1 av s → ∃ As, av = .ref b0 :: As ∧ As.length = 2 := by
  intro av s h
  simp only [cf_RIJ] at h
  split at h
  · obtain ⟨rfl, -⟩ := h
    exact ⟨_, rfl, rfl⟩
  · exact h.elim
theorem cf_RIJ_i {σ : Type} {G : Gx} {y : MethodName} {ws : List Cond} {rm : Room} {enc : σ → va_W} {b0 : Nat} {pre : σ → Int32 → Int64 → Prop} {f : σ → Int32 → Int64 → Option Value} {g : σ → Int32 → Int64 → σ} (h : ∀ (l : Launch) (s : σ) (x1 : Int32) (x2 : Int64), pre s x1 x2 → Mt l G y ws rm enc [.ref b0, .int x1, .long x2] s (fun o u => o = f s x1 x2 ∧ u = g s x1 x2)) : MtF G y ws rm enc (cf_RIJ b0 pre f g) := by
  intro l av s hp
  simp only [cf_RIJ] at hp
  split at hp
  · obtain ⟨rfl, hp⟩ := hp
    exact h l s _ _ hp
  · exact hp.elim
def cf_RRIII {σ : Type} (b0 : Nat) (b1 : Nat) (pre : σ → Int32 → Int32 → Int32 → Prop) (f : σ → Int32 → Int32 → Int32 → Option Value) (g : σ → Int32 → Int32 → Int32 → σ) : CF σ := (fun av s => match av with | [.ref a0, .ref a1, .int x2, .int x3, .int x4] => a0 = b0 ∧ a1 = b1 ∧ pre s x2 x3 x4 | _ => False, fun av s => match av with | [.ref a0, .ref a1, .int x2, .int x3, .int x4] => f s x2 x3 x4 | _ => none, fun av s => match av with | [.ref a0, .ref a1, .int x2, .int x3, .int x4] => g s x2 x3 x4 | _ => s)
theorem cf_RRIII_e {σ σc : Type} {a0 b0 : Nat} {a1 b1 : Nat} {x2 : Int32} {x3 : Int32} {x4 : Int32} {pre : σc → Int32 → Int32 → Int32 → Prop} {f : σc → Int32 → Int32 → Int32 → Option Value} {g : σc → Int32 → Int32 → Int32 → σc} {get : σ → σc} {set : σ → σc → σ} {P : PT σ} {L : Lc} {r : List Value} {s : σ} : wCallR 5 (cf_RRIII b0 b1 pre f g) get set P L (.int x4 :: .int x3 :: .int x2 :: .ref a1 :: .ref a0 :: r) s = (restOK r ∧ (a0 = b0 ∧ a1 = b1 ∧ pre (get s) x2 x3 x4) ∧ P L ((f (get s) x2 x3 x4).toList ++ r) (set s (g (get s) x2 x3 x4))) := rfl
theorem cf_RRIII_r {σ : Type} (b0 : Nat) (b1 : Nat) (pre : σ → Int32 → Int32 → Int32 → Prop) (f : σ → Int32 → Int32 → Int32 → Option Value) (g : σ → Int32 → Int32 → Int32 → σ) : ∀ av s, (cf_RRIII b0 b1 pre f g).1 av s → ∃ As, av = .ref b0 :: As ∧ As.length = 4 := by
  intro av s h
  simp only [cf_RRIII] at h
  split at h
  · obtain ⟨rfl, -⟩ := h
    exact ⟨_, rfl, rfl⟩
  · exact h.elim
theorem cf_RRIII_i {σ : Type} {G : Gx} {y : MethodName} {ws : List Cond} {rm : Room} {enc : σ → va_W} {b0 b1 : Nat} {pre : σ → Int32 → Int32 → Int32 → Prop} {f : σ → Int32 → Int32 → Int32 → Option Value} {g : σ → Int32 → Int32 → Int32 → σ} (h : ∀ (l : Launch) (s : σ) (x2 : Int32) (x3 : Int32) (x4 : Int32), pre s x2 x3 x4 → Mt l G y ws rm enc [.ref b0, .ref b1, .int x2, .int x3, .int x4] s (fun o u => o = f s x2 x3 x4 ∧ u = g s x2 x3 x4)) : MtF G y ws rm enc (cf_RRIII b0 b1 pre f g) := by
  intro l av s hp
  simp only [cf_RRIII] at hp
  split at hp
  · obtain ⟨rfl, rfl, hp⟩ := hp
    exact h l s _ _ _ hp
  · exact hp.elim
def cf_I {σ : Type} (pre : σ → Int32 → Prop) (f : σ → Int32 → Option Value) (g : σ → Int32 → σ) : CF σ := (fun av s => match av with | [.int x0] => pre s x0 | _ => False, fun av s => match av with | [.int x0] => f s x0 | _ => none, fun av s => match av with | [.int x0] => g s x0 | _ => s)
theorem cf_I_e {σ σc : Type} {x0 : Int32} {pre : σc → Int32 → Prop} {f : σc → Int32 → Option Value} {g : σc → Int32 → σc} {get : σ → σc} {set : σ → σc → σ} {P : PT σ} {L : Lc} {r : List Value} {s : σ} : wCallR 1 (cf_I pre f g) get set P L (.int x0 :: r) s = (restOK r ∧ (pre (get s) x0) ∧ P L ((f (get s) x0).toList ++ r) (set s (g (get s) x0))) := rfl
theorem cf_I_r {σ : Type}  (pre : σ → Int32 → Prop) (f : σ → Int32 → Option Value) (g : σ → Int32 → σ) : ∀ av s, (cf_I  pre f g).1 av s → av.length = 1 := by
  intro av s h
  simp only [cf_I] at h
  split at h
  · rfl
  · exact h.elim
theorem cf_I_i {σ : Type} {G : Gx} {y : MethodName} {ws : List Cond} {rm : Room} {enc : σ → va_W} {pre : σ → Int32 → Prop} {f : σ → Int32 → Option Value} {g : σ → Int32 → σ} (h : ∀ (l : Launch) (s : σ) (x0 : Int32), pre s x0 → Mt l G y ws rm enc [.int x0] s (fun o u => o = f s x0 ∧ u = g s x0)) : MtF G y ws rm enc (cf_I  pre f g) := by
  intro l av s hp
  simp only [cf_I] at hp
  split at hp
  · exact h l s _ hp
  · exact hp.elim
def cf_II {σ : Type} (pre : σ → Int32 → Int32 → Prop) (f : σ → Int32 → Int32 → Option Value) (g : σ → Int32 → Int32 → σ) : CF σ := (fun av s => match av with | [.int x0, .int x1] => pre s x0 x1 | _ => False, fun av s => match av with | [.int x0, .int x1] => f s x0 x1 | _ => none, fun av s => match av with | [.int x0, .int x1] => g s x0 x1 | _ => s)
theorem cf_II_e {σ σc : Type} {x0 : Int32} {x1 : Int32} {pre : σc → Int32 → Int32 → Prop} {f : σc → Int32 → Int32 → Option Value} {g : σc → Int32 → Int32 → σc} {get : σ → σc} {set : σ → σc → σ} {P : PT σ} {L : Lc} {r : List Value} {s : σ} : wCallR 2 (cf_II pre f g) get set P L (.int x1 :: .int x0 :: r) s = (restOK r ∧ (pre (get s) x0 x1) ∧ P L ((f (get s) x0 x1).toList ++ r) (set s (g (get s) x0 x1))) := rfl
theorem cf_II_r {σ : Type}  (pre : σ → Int32 → Int32 → Prop) (f : σ → Int32 → Int32 → Option Value) (g : σ → Int32 → Int32 → σ) : ∀ av s, (cf_II  pre f g).1 av s → av.length = 2 := by
  intro av s h
  simp only [cf_II] at h
  split at h
  · rfl
  · exact h.elim
theorem cf_II_i {σ : Type} {G : Gx} {y : MethodName} {ws : List Cond} {rm : Room} {enc : σ → va_W} {pre : σ → Int32 → Int32 → Prop} {f : σ → Int32 → Int32 → Option Value} {g : σ → Int32 → Int32 → σ} (h : ∀ (l : Launch) (s : σ) (x0 : Int32) (x1 : Int32), pre s x0 x1 → Mt l G y ws rm enc [.int x0, .int x1] s (fun o u => o = f s x0 x1 ∧ u = g s x0 x1)) : MtF G y ws rm enc (cf_II  pre f g) := by
  intro l av s hp
  simp only [cf_II] at hp
  split at hp
  · exact h l s _ _ hp
  · exact hp.elim
def cf_III {σ : Type} (pre : σ → Int32 → Int32 → Int32 → Prop) (f : σ → Int32 → Int32 → Int32 → Option Value) (g : σ → Int32 → Int32 → Int32 → σ) : CF σ := (fun av s => match av with | [.int x0, .int x1, .int x2] => pre s x0 x1 x2 | _ => False, fun av s => match av with | [.int x0, .int x1, .int x2] => f s x0 x1 x2 | _ => none, fun av s => match av with | [.int x0, .int x1, .int x2] => g s x0 x1 x2 | _ => s)
theorem cf_III_e {σ σc : Type} {x0 : Int32} {x1 : Int32} {x2 : Int32} {pre : σc → Int32 → Int32 → Int32 → Prop} {f : σc → Int32 → Int32 → Int32 → Option Value} {g : σc → Int32 → Int32 → Int32 → σc} {get : σ → σc} {set : σ → σc → σ} {P : PT σ} {L : Lc} {r : List Value} {s : σ} : wCallR 3 (cf_III pre f g) get set P L (.int x2 :: .int x1 :: .int x0 :: r) s = (restOK r ∧ (pre (get s) x0 x1 x2) ∧ P L ((f (get s) x0 x1 x2).toList ++ r) (set s (g (get s) x0 x1 x2))) := rfl
theorem cf_III_r {σ : Type}  (pre : σ → Int32 → Int32 → Int32 → Prop) (f : σ → Int32 → Int32 → Int32 → Option Value) (g : σ → Int32 → Int32 → Int32 → σ) : ∀ av s, (cf_III  pre f g).1 av s → av.length = 3 := by
  intro av s h
  simp only [cf_III] at h
  split at h
  · rfl
  · exact h.elim
theorem cf_III_i {σ : Type} {G : Gx} {y : MethodName} {ws : List Cond} {rm : Room} {enc : σ → va_W} {pre : σ → Int32 → Int32 → Int32 → Prop} {f : σ → Int32 → Int32 → Int32 → Option Value} {g : σ → Int32 → Int32 → Int32 → σ} (h : ∀ (l : Launch) (s : σ) (x0 : Int32) (x1 : Int32) (x2 : Int32), pre s x0 x1 x2 → Mt l G y ws rm enc [.int x0, .int x1, .int x2] s (fun o u => o = f s x0 x1 x2 ∧ u = g s x0 x1 x2)) : MtF G y ws rm enc (cf_III  pre f g) := by
  intro l av s hp
  simp only [cf_III] at hp
  split at hp
  · exact h l s _ _ _ hp
  · exact hp.elim
def cf_J {σ : Type} (pre : σ → Int64 → Prop) (f : σ → Int64 → Option Value) (g : σ → Int64 → σ) : CF σ := (fun av s => match av with | [.long x0] => pre s x0 | _ => False, fun av s => match av with | [.long x0] => f s x0 | _ => none, fun av s => match av with | [.long x0] => g s x0 | _ => s)
theorem cf_J_e {σ σc : Type} {x0 : Int64} {pre : σc → Int64 → Prop} {f : σc → Int64 → Option Value} {g : σc → Int64 → σc} {get : σ → σc} {set : σ → σc → σ} {P : PT σ} {L : Lc} {r : List Value} {s : σ} : wCallR 1 (cf_J pre f g) get set P L (.long x0 :: r) s = (restOK r ∧ (pre (get s) x0) ∧ P L ((f (get s) x0).toList ++ r) (set s (g (get s) x0))) := rfl
theorem cf_J_r {σ : Type}  (pre : σ → Int64 → Prop) (f : σ → Int64 → Option Value) (g : σ → Int64 → σ) : ∀ av s, (cf_J  pre f g).1 av s → av.length = 1 := by
  intro av s h
  simp only [cf_J] at h
  split at h
  · rfl
  · exact h.elim
theorem cf_J_i {σ : Type} {G : Gx} {y : MethodName} {ws : List Cond} {rm : Room} {enc : σ → va_W} {pre : σ → Int64 → Prop} {f : σ → Int64 → Option Value} {g : σ → Int64 → σ} (h : ∀ (l : Launch) (s : σ) (x0 : Int64), pre s x0 → Mt l G y ws rm enc [.long x0] s (fun o u => o = f s x0 ∧ u = g s x0)) : MtF G y ws rm enc (cf_J  pre f g) := by
  intro l av s hp
  simp only [cf_J] at hp
  split at hp
  · exact h l s _ hp
  · exact hp.elim
def cf_RJ {σ : Type} (b0 : Nat) (pre : σ → Int64 → Prop) (f : σ → Int64 → Option Value) (g : σ → Int64 → σ) : CF σ := (fun av s => match av with | [.ref a0, .long x1] => a0 = b0 ∧ pre s x1 | _ => False, fun av s => match av with | [.ref a0, .long x1] => f s x1 | _ => none, fun av s => match av with | [.ref a0, .long x1] => g s x1 | _ => s)
theorem cf_RJ_e {σ σc : Type} {a0 b0 : Nat} {x1 : Int64} {pre : σc → Int64 → Prop} {f : σc → Int64 → Option Value} {g : σc → Int64 → σc} {get : σ → σc} {set : σ → σc → σ} {P : PT σ} {L : Lc} {r : List Value} {s : σ} : wCallR 2 (cf_RJ b0 pre f g) get set P L (.long x1 :: .ref a0 :: r) s = (restOK r ∧ (a0 = b0 ∧ pre (get s) x1) ∧ P L ((f (get s) x1).toList ++ r) (set s (g (get s) x1))) := rfl
theorem cf_RJ_r {σ : Type} (b0 : Nat) (pre : σ → Int64 → Prop) (f : σ → Int64 → Option Value) (g : σ → Int64 → σ) : ∀ av s, (cf_RJ b0 pre f g).1 av s → ∃ As, av = .ref b0 :: As ∧ As.length = 1 := by
  intro av s h
  simp only [cf_RJ] at h
  split at h
  · obtain ⟨rfl, -⟩ := h
    exact ⟨_, rfl, rfl⟩
  · exact h.elim
theorem cf_RJ_i {σ : Type} {G : Gx} {y : MethodName} {ws : List Cond} {rm : Room} {enc : σ → va_W} {b0 : Nat} {pre : σ → Int64 → Prop} {f : σ → Int64 → Option Value} {g : σ → Int64 → σ} (h : ∀ (l : Launch) (s : σ) (x1 : Int64), pre s x1 → Mt l G y ws rm enc [.ref b0, .long x1] s (fun o u => o = f s x1 ∧ u = g s x1)) : MtF G y ws rm enc (cf_RJ b0 pre f g) := by
  intro l av s hp
  simp only [cf_RJ] at hp
  split at hp
  · obtain ⟨rfl, hp⟩ := hp
    exact h l s _ hp
  · exact hp.elim
theorem cf_RIII_q {σ : Type} (b0 : Nat) (pre : σ → Int32 → Int32 → Int32 → Prop) (f : σ → Int32 → Int32 → Int32 → Option Value) (g : σ → Int32 → Int32 → Int32 → σ) : ∀ av s, (cf_RIII b0 pre f g).1 av s → av.length = 4 := by
  intro av s h
  simp only [cf_RIII] at h
  split at h
  · rfl
  · exact h.elim
set_option maxRecDepth 20000 in
theorem fr_T_T (B : Bx) (g : Nat → Nat) (t : Nat) : FrOK (encT B g t) (encT B g t) id (fun _ u => u) [0, 1, 2, 3, 4] [] [0, 1, 2, 3, 4] := ⟨fun _ => rfl, rfl, rfl, by decide, rfl, fun S => ⟨[], rfl, fun _ => rfl⟩⟩
set_option maxRecDepth 20000 in
theorem fr_T_E (B : Bx) (g : Nat → Nat) (t : Nat) : FrOK (encT B g t) (encE) (fun _ => ()) (fun s _ => s) [] [0, 1, 2, 3, 4] [0, 1, 2, 3, 4] := ⟨fun _ => rfl, rfl, rfl, by decide, rfl, fun S => ⟨[(g t, .inr (2, [.ref (g (t + 1)), .int (tPp S), .ref (g (t + 2)), .int (tNn S), .ref (g (t + 3)), .int (tHh S), .ref (g (t + 4)), .int (tYr S)])), (g (t + 1), .inl (B.2.1, 42, .inl (tPt S))), (g (t + 2), .inl (B.2.1, 72, .inl (tNt S))), (g (t + 3), .inl (B.2.1, 1350, .inl (tBt S))), (g (t + 4), .inl (B.2.1, 4, .inl (tSe S)))], rfl, fun _ => rfl⟩⟩
set_option maxRecDepth 20000 in
theorem fr_C_C (B : Bx) (g : Nat → Nat) (t : Nat) : FrOK (encC B g t) (encC B g t) id (fun _ u => u) [0, 1, 2, 3, 4, 5, 6] [] [0, 1, 2, 3, 4, 5, 6] := ⟨fun _ => rfl, rfl, rfl, by decide, rfl, fun S => ⟨[], rfl, fun _ => rfl⟩⟩
set_option maxRecDepth 20000 in
theorem fr_C_E (B : Bx) (g : Nat → Nat) (t : Nat) : FrOK (encC B g t) (encE) (fun _ => ()) (fun s _ => s) [] [0, 1, 2, 3, 4, 5, 6] [0, 1, 2, 3, 4, 5, 6] := ⟨fun _ => rfl, rfl, rfl, by decide, rfl, fun S => ⟨[(g 0, .inr (3, [.ref (g 1), .ref (g 6), .ref (g 11), .int (cIm S), .ref (g 16), .ref (g 22), .ref (g 24), .int (cRl S), .ref (g 25)])), (g 24, .inl (B.2.1, 10, .inl (cRo S))), (g t, .inr (2, [.ref (g (t + 1)), .int (cTPp S), .ref (g (t + 2)), .int (cTNn S), .ref (g (t + 3)), .int (cTHh S), .ref (g (t + 4)), .int (cTYr S)])), (g (t + 1), .inl (B.2.1, 42, .inl (cTPt S))), (g (t + 2), .inl (B.2.1, 72, .inl (cTNt S))), (g (t + 3), .inl (B.2.1, 1350, .inl (cTBt S))), (g (t + 4), .inl (B.2.1, 4, .inl (cTSe S)))], rfl, fun _ => rfl⟩⟩
set_option maxRecDepth 20000 in
theorem fr_S_S (B : Bx) (g : Nat → Nat) : FrOK (encS B g) (encS B g) id (fun _ u => u) [0, 1, 2, 3, 4, 5] [] [0, 1, 2, 3, 4, 5] := ⟨fun _ => rfl, rfl, rfl, by decide, rfl, fun S => ⟨[], rfl, fun _ => rfl⟩⟩
set_option maxRecDepth 20000 in
theorem fr_S_E (B : Bx) (g : Nat → Nat) : FrOK (encS B g) (encE) (fun _ => ()) (fun s _ => s) [] [0, 1, 2, 3, 4, 5] [0, 1, 2, 3, 4, 5] := ⟨fun _ => rfl, rfl, rfl, by decide, rfl, fun S => ⟨[(g 16, .inr (1, [.ref (g 17), .int (eHd S), .ref (g 18), .ref (g 19), .ref (g 20), .ref (g 21), .int (eFi S)])), (g 17, .inl (B.2.1, 8, .inl (eNh S))), (g 18, .inl (B.2.1, 56, .inl (eGo S))), (g 19, .inl (B.2.2.1, 56, .inr (.inl (eSm S)))), (g 20, .inl (B.2.2.1, 1024, .inr (.inl (eSk S)))), (g 21, .inl (B.2.1, 1024, .inl (eSu S)))], rfl, fun _ => rfl⟩⟩
set_option maxRecDepth 20000 in
theorem fr_L_L (B : Bx) (g : Nat → Nat) : FrOK (encL B g) (encL B g) id (fun _ u => u) [0, 1] [] [0, 1] := ⟨fun _ => rfl, rfl, rfl, by decide, rfl, fun S => ⟨[], rfl, fun _ => rfl⟩⟩
set_option maxRecDepth 20000 in
theorem fr_L_E (B : Bx) (g : Nat → Nat) : FrOK (encL B g) (encE) (fun _ => ()) (fun s _ => s) [] [0, 1] [0, 1] := ⟨fun _ => rfl, rfl, rfl, by decide, rfl, fun S => ⟨[(g 22, .inr (0, [.ref (g 23), .int (lLn S)])), (g 23, .inl (B.2.1, 64, .inl (lFd S)))], rfl, fun _ => rfl⟩⟩
set_option maxRecDepth 20000 in
theorem fr_ST_ST (B : Bx) (g : Nat → Nat) (t : Nat) : FrOK (encST B g t) (encST B g t) id (fun _ u => u) [0, 1, 2, 3, 4, 5, 6, 7, 8, 9, 10] [] [0, 1, 2, 3, 4, 5, 6, 7, 8, 9, 10] := ⟨fun _ => rfl, rfl, rfl, by decide, rfl, fun S => ⟨[], rfl, fun _ => rfl⟩⟩
set_option maxRecDepth 20000 in
theorem fr_ST_E (B : Bx) (g : Nat → Nat) (t : Nat) : FrOK (encST B g t) (encE) (fun _ => ()) (fun s _ => s) [] [0, 1, 2, 3, 4, 5, 6, 7, 8, 9, 10] [0, 1, 2, 3, 4, 5, 6, 7, 8, 9, 10] := ⟨fun _ => rfl, rfl, rfl, by decide, rfl, fun S => ⟨[(g 16, .inr (1, [.ref (g 17), .int (fSHd S), .ref (g 18), .ref (g 19), .ref (g 20), .ref (g 21), .int (fSFi S)])), (g 17, .inl (B.2.1, 8, .inl (fSNh S))), (g 18, .inl (B.2.1, 56, .inl (fSGo S))), (g 19, .inl (B.2.2.1, 56, .inr (.inl (fSSm S)))), (g 20, .inl (B.2.2.1, 1024, .inr (.inl (fSSk S)))), (g 21, .inl (B.2.1, 1024, .inl (fSSu S))), (g t, .inr (2, [.ref (g (t + 1)), .int (fTPp S), .ref (g (t + 2)), .int (fTNn S), .ref (g (t + 3)), .int (fTHh S), .ref (g (t + 4)), .int (fTYr S)])), (g (t + 1), .inl (B.2.1, 42, .inl (fTPt S))), (g (t + 2), .inl (B.2.1, 72, .inl (fTNt S))), (g (t + 3), .inl (B.2.1, 1350, .inl (fTBt S))), (g (t + 4), .inl (B.2.1, 4, .inl (fTSe S)))], rfl, fun _ => rfl⟩⟩
set_option maxRecDepth 20000 in
theorem fr_LT_LT (B : Bx) (g : Nat → Nat) (t : Nat) : FrOK (encLT B g t) (encLT B g t) id (fun _ u => u) [0, 1, 2, 3, 4, 5, 6] [] [0, 1, 2, 3, 4, 5, 6] := ⟨fun _ => rfl, rfl, rfl, by decide, rfl, fun S => ⟨[], rfl, fun _ => rfl⟩⟩
set_option maxRecDepth 20000 in
theorem fr_LT_E (B : Bx) (g : Nat → Nat) (t : Nat) : FrOK (encLT B g t) (encE) (fun _ => ()) (fun s _ => s) [] [0, 1, 2, 3, 4, 5, 6] [0, 1, 2, 3, 4, 5, 6] := ⟨fun _ => rfl, rfl, rfl, by decide, rfl, fun S => ⟨[(g 22, .inr (0, [.ref (g 23), .int (mLLn S)])), (g 23, .inl (B.2.1, 64, .inl (mLFd S))), (g t, .inr (2, [.ref (g (t + 1)), .int (mTPp S), .ref (g (t + 2)), .int (mTNn S), .ref (g (t + 3)), .int (mTHh S), .ref (g (t + 4)), .int (mTYr S)])), (g (t + 1), .inl (B.2.1, 42, .inl (mTPt S))), (g (t + 2), .inl (B.2.1, 72, .inl (mTNt S))), (g (t + 3), .inl (B.2.1, 1350, .inl (mTBt S))), (g (t + 4), .inl (B.2.1, 4, .inl (mTSe S)))], rfl, fun _ => rfl⟩⟩
theorem fr_E_E : FrOK encE encE (fun _ => ()) (fun s _ => s) [] [] [] := ⟨fun _ => rfl, rfl, rfl, by decide, rfl, fun s => ⟨[], rfl, fun _ => rfl⟩⟩
set_option maxRecDepth 20000 in
theorem fr_C_T (B : Bx) (g : Nat → Nat) (t : Nat) : FrOK (encC B g t) (encT B g t) cT csT [2, 3, 4, 5, 6] [0, 1] [0, 1, 2, 3, 4, 5, 6] := ⟨fun _ => rfl, rfl, rfl, by decide, rfl, fun S => ⟨[(g 0, .inr (3, [.ref (g 1), .ref (g 6), .ref (g 11), .int (cIm S), .ref (g 16), .ref (g 22), .ref (g 24), .int (cRl S), .ref (g 25)])), (g 24, .inl (B.2.1, 10, .inl (cRo S)))], rfl, fun _ => rfl⟩⟩
set_option maxRecDepth 20000 in
theorem fr_ST_T (B : Bx) (g : Nat → Nat) (t : Nat) : FrOK (encST B g t) (encT B g t) fT fsT [6, 7, 8, 9, 10] [0, 1, 2, 3, 4, 5] [0, 1, 2, 3, 4, 5, 6, 7, 8, 9, 10] := ⟨fun _ => rfl, rfl, rfl, by decide, rfl, fun S => ⟨[(g 16, .inr (1, [.ref (g 17), .int (fSHd S), .ref (g 18), .ref (g 19), .ref (g 20), .ref (g 21), .int (fSFi S)])), (g 17, .inl (B.2.1, 8, .inl (fSNh S))), (g 18, .inl (B.2.1, 56, .inl (fSGo S))), (g 19, .inl (B.2.2.1, 56, .inr (.inl (fSSm S)))), (g 20, .inl (B.2.2.1, 1024, .inr (.inl (fSSk S)))), (g 21, .inl (B.2.1, 1024, .inl (fSSu S)))], rfl, fun _ => rfl⟩⟩
set_option maxRecDepth 20000 in
theorem fr_ST_S (B : Bx) (g : Nat → Nat) (t : Nat) : FrOK (encST B g t) (encS B g) fS fsS [0, 1, 2, 3, 4, 5] [6, 7, 8, 9, 10] [5, 6, 7, 8, 9, 10, 0, 1, 2, 3, 4] := ⟨fun _ => rfl, rfl, rfl, by decide, rfl, fun S => ⟨[(g t, .inr (2, [.ref (g (t + 1)), .int (fTPp S), .ref (g (t + 2)), .int (fTNn S), .ref (g (t + 3)), .int (fTHh S), .ref (g (t + 4)), .int (fTYr S)])), (g (t + 1), .inl (B.2.1, 42, .inl (fTPt S))), (g (t + 2), .inl (B.2.1, 72, .inl (fTNt S))), (g (t + 3), .inl (B.2.1, 1350, .inl (fTBt S))), (g (t + 4), .inl (B.2.1, 4, .inl (fTSe S)))], rfl, fun _ => rfl⟩⟩
set_option maxRecDepth 20000 in
theorem fr_LT_T (B : Bx) (g : Nat → Nat) (t : Nat) : FrOK (encLT B g t) (encT B g t) mT msT [2, 3, 4, 5, 6] [0, 1] [0, 1, 2, 3, 4, 5, 6] := ⟨fun _ => rfl, rfl, rfl, by decide, rfl, fun S => ⟨[(g 22, .inr (0, [.ref (g 23), .int (mLLn S)])), (g 23, .inl (B.2.1, 64, .inl (mLFd S)))], rfl, fun _ => rfl⟩⟩
set_option maxRecDepth 20000 in
theorem fr_LT_L (B : Bx) (g : Nat → Nat) (t : Nat) : FrOK (encLT B g t) (encL B g) mL msL [0, 1] [2, 3, 4, 5, 6] [5, 6, 0, 1, 2, 3, 4] := ⟨fun _ => rfl, rfl, rfl, by decide, rfl, fun S => ⟨[(g t, .inr (2, [.ref (g (t + 1)), .int (mTPp S), .ref (g (t + 2)), .int (mTNn S), .ref (g (t + 3)), .int (mTHh S), .ref (g (t + 4)), .int (mTYr S)])), (g (t + 1), .inl (B.2.1, 42, .inl (mTPt S))), (g (t + 2), .inl (B.2.1, 72, .inl (mTNt S))), (g (t + 3), .inl (B.2.1, 1350, .inl (mTBt S))), (g (t + 4), .inl (B.2.1, 4, .inl (mTSe S)))], rfl, fun _ => rfl⟩⟩

