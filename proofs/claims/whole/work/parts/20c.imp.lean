theorem Snd.imp {σ : Type} {X : Cx} {G : Gx} {nL pc : Nat} {enc : σ → va_W} {c : Prop} {P : PT σ} (h : c → Snd X G nL enc pc P) : Snd X G nL enc pc (fun L st s => c ∧ P L st s) :=
  fun H locs ls L st s hl hP hD hS hw => h hw.1 H locs ls L st s hl hP hD hS hw.2
