/-! the 44 calls but read: the same answers, and the invariant stays -/
theorem inv_taken {W : Nat → Int64} {I : st_I} {L : st_L} (H : Inv W I L) (a b s c : Int32) :
    EI 60 mX11_taken [.ref 0, .int a, .int b, .int s, .int c] I L (fun r I1 L1 => EI 60 mX12_taken [.ref 58, .int a, .int b, .int s, .int c] I1 L1 (fun r' I2 L2 => r' = r ∧ Inv W I2 L2)) := by
  obtain ⟨hK, ht, hst, hp, lv, nf, np, nb, nl, npl, nF, h1, h2, h3, h4⟩ := id H
  exact op_taken h1 hst (fun J hJ => H.tell hJ) a b s c
theorem inv_parts {W : Nat → Int64} {I : st_I} {L : st_L} (H : Inv W I L) (a b c s : Int32) :
    EI 60 mX11_parts [.ref 0, .int a, .int b, .int c, .int s] I L (fun r I1 L1 => EI 60 mX12_parts [.ref 58, .int a, .int b, .int c, .int s] I1 L1 (fun r' I2 L2 => r' = r ∧ Inv W I2 L2)) := by
  obtain ⟨hK, ht, hst, hp, lv, nf, np, nb, nl, npl, nF, h1, h2, h3, h4⟩ := id H
  exact op_parts h1 hst (fun J hJ => H.tell hJ) a b c s
theorem inv_next {W : Nat → Int64} {I : st_I} {L : st_L} (H : Inv W I L) (b c s : Int32) :
    EI 60 mX11_next [.ref 0, .int b, .int c, .int s] I L (fun r I1 L1 => EI 60 mX12_next [.ref 58, .int b, .int c, .int s] I1 L1 (fun r' I2 L2 => r' = r ∧ Inv W I2 L2)) := by
  obtain ⟨hK, ht, hst, hp, lv, nf, np, nb, nl, npl, nF, h1, h2, h3, h4⟩ := id H
  exact op_next h1 hst (fun J hJ => H.tell hJ) b c s
theorem inv_takes {W : Nat → Int64} {I : st_I} {L : st_L} (H : Inv W I L) (a b s c : Int32) :
    EI 60 mX11_takes [.ref 0, .int a, .int b, .int s, .int c] I L (fun r I1 L1 => EI 60 mX12_takes [.ref 58, .int a, .int b, .int s, .int c] I1 L1 (fun r' I2 L2 => r' = r ∧ Inv W I2 L2)) := by
  obtain ⟨hK, ht, hst, hp, lv, nf, np, nb, nl, npl, nF, h1, h2, h3, h4⟩ := id H
  exact op_takes h1 hst (fun J hJ => H.tell hJ) a b s c
theorem inv_liking {W : Nat → Int64} {I : st_I} {L : st_L} (H : Inv W I L) (a b c e se sp no : Int32) (hse : bo se) :
    EI 60 mX11_liking [.ref 0, .int a, .int b, .int c, .int e, .int se, .int sp, .int no] I L (fun r I1 L1 => EI 60 mX12_liking [.ref 58, .int a, .int b, .int c, .int e, .int se, .int sp, .int no] I1 L1 (fun r' I2 L2 => r' = r ∧ Inv W I2 L2)) := by
  obtain ⟨hK, ht, hst, hp, lv, nf, np, nb, nl, npl, nF, h1, h2, h3, h4⟩ := id H
  exact op_liking h1 hst (fun J hJ => H.tell hJ) a b c e se sp no hse
theorem inv_place {W : Nat → Int64} {I : st_I} {L : st_L} (H : Inv W I L)  :
    EI 60 mX11_place [.ref 0] I L (fun r I1 L1 => EI 60 mX12_place [.ref 58] I1 L1 (fun r' I2 L2 => r' = r ∧ Inv W I2 L2)) := by
  obtain ⟨hK, ht, hst, hp, lv, nf, np, nb, nl, npl, nF, h1, h2, h3, h4⟩ := id H
  exact op_place hp H
theorem inv_fiddle {W : Nat → Int64} {I : st_I} {L : st_L} (H : Inv W I L) (a b : Int32) :
    EI 60 mX11_fiddle [.ref 0, .int a, .int b] I L (fun r I1 L1 => EI 60 mX12_fiddle [.ref 58, .int a, .int b] I1 L1 (fun r' I2 L2 => r' = r ∧ Inv W I2 L2)) := by
  obtain ⟨hK, ht, hst, hp, lv, nf, np, nb, nl, npl, nF, h1, h2, h3, h4⟩ := id H
  exact op_fiddle h1 H a b
theorem inv_fact {W : Nat → Int64} {I : st_I} {L : st_L} (H : Inv W I L) (a b : Int32) :
    EI 60 mX11_fact [.ref 0, .int a, .int b] I L (fun r I1 L1 => EI 60 mX12_fact [.ref 58, .int a, .int b] I1 L1 (fun r' I2 L2 => r' = r ∧ Inv W I2 L2)) := by
  obtain ⟨hK, ht, hst, hp, lv, nf, np, nb, nl, npl, nF, h1, h2, h3, h4⟩ := id H
  exact op_fact h2 H a b
theorem inv_feed {W : Nat → Int64} {I : st_I} {L : st_L} (H : Inv W I L) (a b c e f : Int32) :
    EI 60 mX11_feed [.ref 0, .int a, .int b, .int c, .int e, .int f] I L (fun r I1 L1 => EI 60 mX12_feed [.ref 58, .int a, .int b, .int c, .int e, .int f] I1 L1 (fun r' I2 L2 => r' = r ∧ Inv W I2 L2)) := by
  obtain ⟨hK, ht, hst, hp, lv, nf, np, nb, nl, npl, nF, h1, h2, h3, h4⟩ := id H
  exact op_feedb ht.1 ht.2 H (fun J x1 x2 x3 x4 x5 => H.tape x1 x2 x3 x4 x5) a b c e f
theorem inv_back {W : Nat → Int64} {I : st_I} {L : st_L} (H : Inv W I L) (a : Int32) :
    EI 60 mX11_back [.ref 0, .int a] I L (fun r I1 L1 => EI 60 mX12_back [.ref 58, .int a] I1 L1 (fun r' I2 L2 => r' = r ∧ Inv W I2 L2)) := by
  obtain ⟨hK, ht, hst, hp, lv, nf, np, nb, nl, npl, nF, h1, h2, h3, h4⟩ := id H
  exact op_backb ht.1 ht.2 H (fun J x1 x2 x3 x4 x5 => H.tape x1 x2 x3 x4 x5) a
theorem inv_guess {W : Nat → Int64} {I : st_I} {L : st_L} (H : Inv W I L) (a b : Int32) {g : Int32} (hg : bo g) :
    EI 60 mX11_guess [.ref 0, .int a, .int b, .int g] I L (fun r I1 L1 => EI 60 mX12_guess [.ref 58, .int a, .int b, .int g] I1 L1 (fun r' I2 L2 => r' = r ∧ Inv W I2 L2)) := by
  obtain ⟨hK, ht, hst, hp, lv, nf, np, nb, nl, npl, nF, h1, h2, h3, h4⟩ := id H
  exact op_guess h1 h2 (fun J n hJ => Inv.fct hK ht hst hp h1 h3 h4 hJ) a b hg
theorem inv_mark {W : Nat → Int64} {I : st_I} {L : st_L} (H : Inv W I L) (a b c e : Int32) {g : Int32} (hg : bo g) :
    EI 60 mX11_mark [.ref 0, .int a, .int b, .int c, .int e, .int g] I L (fun r I1 L1 => EI 60 mX12_mark [.ref 58, .int a, .int b, .int c, .int e, .int g] I1 L1 (fun r' I2 L2 => r' = r ∧ Inv W I2 L2)) := by
  obtain ⟨hK, ht, hst, hp, lv, nf, np, nb, nl, npl, nF, h1, h2, h3, h4⟩ := id H
  exact op_mark h1 h2 (fun J n hJ => Inv.fct hK ht hst hp h1 h3 h4 hJ) a b c e hg
theorem inv_annul {W : Nat → Int64} {I : st_I} {L : st_L} (H : Inv W I L) (a : Int32) :
    EI 60 mX11_annul [.ref 0, .int a] I L (fun r I1 L1 => EI 60 mX12_annul [.ref 58, .int a] I1 L1 (fun r' I2 L2 => r' = r ∧ Inv W I2 L2)) := by
  obtain ⟨hK, ht, hst, hp, lv, nf, np, nb, nl, npl, nF, h1, h2, h3, h4⟩ := id H
  exact op_annul h2 (fun J n hJ => Inv.fct hK ht hst hp h1 h3 h4 hJ) a
theorem inv_person {W : Nat → Int64} {I : st_I} {L : st_L} (H : Inv W I L) (a b : Int32) :
    EI 60 mX11_person [.ref 0, .int a, .int b] I L (fun r I1 L1 => EI 60 mX12_person [.ref 58, .int a, .int b] I1 L1 (fun r' I2 L2 => r' = r ∧ Inv W I2 L2)) := by
  obtain ⟨hK, ht, hst, hp, lv, nf, np, nb, nl, npl, nF, h1, h2, h3, h4⟩ := id H
  exact op_person h1 H a b
theorem inv_count {W : Nat → Int64} {I : st_I} {L : st_L} (H : Inv W I L) (a : Int32) :
    EI 60 mX11_count [.ref 0, .int a] I L (fun r I1 L1 => EI 60 mX12_count [.ref 58, .int a] I1 L1 (fun r' I2 L2 => r' = r ∧ Inv W I2 L2)) := by
  obtain ⟨hK, ht, hst, hp, lv, nf, np, nb, nl, npl, nF, h1, h2, h3, h4⟩ := id H
  exact op_count h1 h2 ht.1 H a
theorem inv_sitting {W : Nat → Int64} {I : st_I} {L : st_L} (H : Inv W I L) (a b c : Int32) :
    EI 60 mX11_sitting [.ref 0, .int a, .int b, .int c] I L (fun r I1 L1 => EI 60 mX12_sitting [.ref 58, .int a, .int b, .int c] I1 L1 (fun r' I2 L2 => r' = r ∧ Inv W I2 L2)) := by
  obtain ⟨hK, ht, hst, hp, lv, nf, np, nb, nl, npl, nF, h1, h2, h3, h4⟩ := id H
  exact op_sitting h1 H a b c
theorem inv_run {W : Nat → Int64} {I : st_I} {L : st_L} (H : Inv W I L) (a b c s : Int32) :
    EI 60 mX11_run [.ref 0, .int a, .int b, .int c, .int s] I L (fun r I1 L1 => EI 60 mX12_run [.ref 58, .int a, .int b, .int c, .int s] I1 L1 (fun r' I2 L2 => r' = r ∧ Inv W I2 L2)) := by
  obtain ⟨hK, ht, hst, hp, lv, nf, np, nb, nl, npl, nF, h1, h2, h3, h4⟩ := id H
  exact op_run h1 hst h2 (fun J n hJ => Inv.fct hK ht hst hp h1 h3 h4 hJ) a b c s
theorem inv_touch {W : Nat → Int64} {I : st_I} {L : st_L} (H : Inv W I L) (a b c e t m : Int32) :
    EI 60 mX11_touch [.ref 0, .int a, .int b, .int c, .int e, .int t, .int m] I L (fun r I1 L1 => EI 60 mX12_touch [.ref 58, .int a, .int b, .int c, .int e, .int t, .int m] I1 L1 (fun r' I2 L2 => r' = r ∧ Inv W I2 L2)) := by
  obtain ⟨hK, ht, hst, hp, lv, nf, np, nb, nl, npl, nF, h1, h2, h3, h4⟩ := id H
  exact op_touch h1 H (fun J hJ hsJ => H.mt hJ hsJ) a b c e t m
theorem inv_gains {W : Nat → Int64} {I : st_I} {L : st_L} (H : Inv W I L) (a b t c : Int32) :
    EL 60 mX11_gains [.ref 0, .int a, .int b, .int t, .int c] I L (fun r I1 L1 => EL 60 mX12_gains [.ref 58, .int a, .int b, .int t, .int c] I1 L1 (fun r' I2 L2 => r' = r ∧ Inv W I2 L2)) := by
  obtain ⟨hK, ht, hst, hp, lv, nf, np, nb, nl, npl, nF, h1, h2, h3, h4⟩ := id H
  exact op_gains h1 hst H (fun J hJ hsJ => H.mt hJ hsJ) a b t c
theorem inv_last {W : Nat → Int64} {I : st_I} {L : st_L} (H : Inv W I L) (a b s c : Int32) :
    EI 60 mX11_last [.ref 0, .int a, .int b, .int s, .int c] I L (fun r I1 L1 => EI 60 mX12_last [.ref 58, .int a, .int b, .int s, .int c] I1 L1 (fun r' I2 L2 => r' = r ∧ Inv W I2 L2)) := by
  obtain ⟨hK, ht, hst, hp, lv, nf, np, nb, nl, npl, nF, h1, h2, h3, h4⟩ := id H
  exact op_last h1 h2 h3 (fun J x1 x2 x3 => Inv.ask57 hK ht hst hp h1 h2 h4 x1 x2 x3) a b s c
theorem inv_mean {W : Nat → Int64} {I : st_I} {L : st_L} (H : Inv W I L) (a c e : Int32) {s : Int32} (hs : bo s) :
    EI 60 mX11_mean [.ref 0, .int a, .int s, .int c, .int e] I L (fun r I1 L1 => EI 60 mX12_mean [.ref 58, .int a, .int s, .int c, .int e] I1 L1 (fun r' I2 L2 => r' = r ∧ Inv W I2 L2)) := by
  obtain ⟨hK, ht, hst, hp, lv, nf, np, nb, nl, npl, nF, h1, h2, h3, h4⟩ := id H
  exact op_mean h1 h2 h3 (fun J x1 x2 x3 => Inv.ask57 hK ht hst hp h1 h2 h4 x1 x2 x3) a c e hs
theorem inv_guesses {W : Nat → Int64} {I : st_I} {L : st_L} (H : Inv W I L) (c e : Int32) :
    EI 60 mX11_guesses [.ref 0, .int c, .int e] I L (fun r I1 L1 => EI 60 mX12_guesses [.ref 58, .int c, .int e] I1 L1 (fun r' I2 L2 => r' = r ∧ Inv W I2 L2)) := by
  obtain ⟨hK, ht, hst, hp, lv, nf, np, nb, nl, npl, nF, h1, h2, h3, h4⟩ := id H
  exact op_guesses h1 h2 h3 (fun J x1 x2 x3 => Inv.ask57 hK ht hst hp h1 h2 h4 x1 x2 x3) c e
theorem inv_spot {W : Nat → Int64} {I : st_I} {L : st_L} (H : Inv W I L) (c b e : Int32) :
    EI 60 mX11_spot [.ref 0, .int c, .int b, .int e] I L (fun r I1 L1 => EI 60 mX12_spot [.ref 58, .int c, .int b, .int e] I1 L1 (fun r' I2 L2 => r' = r ∧ Inv W I2 L2)) := by
  obtain ⟨hK, ht, hst, hp, lv, nf, np, nb, nl, npl, nF, h1, h2, h3, h4⟩ := id H
  exact op_spot h1 h2 h3 (fun J x1 x2 x3 => Inv.ask57 hK ht hst hp h1 h2 h4 x1 x2 x3) c b e
theorem inv_right {W : Nat → Int64} {I : st_I} {L : st_L} (H : Inv W I L) (c b : Int32) :
    EI 60 mX11_right [.ref 0, .int c, .int b] I L (fun r I1 L1 => EI 60 mX12_right [.ref 58, .int c, .int b] I1 L1 (fun r' I2 L2 => r' = r ∧ Inv W I2 L2)) := by
  obtain ⟨hK, ht, hst, hp, lv, nf, np, nb, nl, npl, nF, h1, h2, h3, h4⟩ := id H
  exact op_right h1 h2 h3 (fun J x1 x2 x3 => Inv.ask57 hK ht hst hp h1 h2 h4 x1 x2 x3) c b
theorem inv_beats {W : Nat → Int64} {I : st_I} {L : st_L} (H : Inv W I L) (c a b : Int32) :
    EI 60 mX11_beats [.ref 0, .int c, .int a, .int b] I L (fun r I1 L1 => EI 60 mX12_beats [.ref 58, .int c, .int a, .int b] I1 L1 (fun r' I2 L2 => r' = r ∧ Inv W I2 L2)) := by
  obtain ⟨hK, ht, hst, hp, lv, nf, np, nb, nl, npl, nF, h1, h2, h3, h4⟩ := id H
  exact op_beats h1 h2 h3 (fun J x1 x2 x3 => Inv.ask57 hK ht hst hp h1 h2 h4 x1 x2 x3) c a b
theorem inv_winner {W : Nat → Int64} {I : st_I} {L : st_L} (H : Inv W I L) (c : Int32) :
    EI 60 mX11_winner [.ref 0, .int c] I L (fun r I1 L1 => EI 60 mX12_winner [.ref 58, .int c] I1 L1 (fun r' I2 L2 => r' = r ∧ Inv W I2 L2)) := by
  obtain ⟨hK, ht, hst, hp, lv, nf, np, nb, nl, npl, nF, h1, h2, h3, h4⟩ := id H
  exact op_winner h1 h2 h3 (fun J x1 x2 x3 => Inv.ask57 hK ht hst hp h1 h2 h4 x1 x2 x3) c
theorem inv_coin {W : Nat → Int64} {I : st_I} {L : st_L} (H : Inv W I L) (c s : Int32) :
    EL 60 mX11_coin [.ref 0, .int c, .int s] I L (fun r I1 L1 => EL 60 mX12_coin [.ref 58, .int c, .int s] I1 L1 (fun r' I2 L2 => r' = r ∧ Inv W I2 L2)) := by
  obtain ⟨hK, ht, hst, hp, lv, nf, np, nb, nl, npl, nF, h1, h2, h3, h4⟩ := id H
  exact op_coin h1 h2 h3 (fun J x1 x2 x3 => Inv.ask57 hK ht hst hp h1 h2 h4 x1 x2 x3) c s
theorem inv_table {W : Nat → Int64} {I : st_I} {L : st_L} (H : Inv W I L) (c s : Int32) :
    EL 60 mX11_table [.ref 0, .int c, .int s] I L (fun r I1 L1 => EL 60 mX12_table [.ref 58, .int c, .int s] I1 L1 (fun r' I2 L2 => r' = r ∧ Inv W I2 L2)) := by
  obtain ⟨hK, ht, hst, hp, lv, nf, np, nb, nl, npl, nF, h1, h2, h3, h4⟩ := id H
  exact op_table h1 h2 h3 (fun J x1 x2 x3 => Inv.ask57 hK ht hst hp h1 h2 h4 x1 x2 x3) c s
theorem inv_best {W : Nat → Int64} {I : st_I} {L : st_L} (H : Inv W I L) (c s : Int32) :
    EI 60 mX11_best [.ref 0, .int c, .int s] I L (fun r I1 L1 => EI 60 mX12_best [.ref 58, .int c, .int s] I1 L1 (fun r' I2 L2 => r' = r ∧ Inv W I2 L2)) := by
  obtain ⟨hK, ht, hst, hp, lv, nf, np, nb, nl, npl, nF, h1, h2, h3, h4⟩ := id H
  exact op_best h1 h2 h3 (fun J x1 x2 x3 => Inv.ask57 hK ht hst hp h1 h2 h4 x1 x2 x3) c s
theorem inv_need {W : Nat → Int64} {I : st_I} {L : st_L} (H : Inv W I L) (u v a b w : Int32) :
    EI 60 mX11_need [.ref 0, .int u, .int v, .int a, .int b, .int w] I L (fun r I1 L1 => EI 60 mX12_need [.ref 58, .int u, .int v, .int a, .int b, .int w] I1 L1 (fun r' I2 L2 => r' = r ∧ Inv W I2 L2)) := by
  obtain ⟨hK, ht, hst, hp, lv, nf, np, nb, nl, npl, nF, h1, h2, h3, h4⟩ := id H
  exact op_need (fun J M x1 x2 => Inv.as (fun q _ _ _ _ _ _ y => x1 q y) (x2 65 (by decide) (by decide)) (fun i hi => by rw [x1 94 (by decide)]; exact hst i hi) H) u v a b w
theorem inv_steady {W : Nat → Int64} {I : st_I} {L : st_L} (H : Inv W I L) (c e : Int32) :
    EI 60 mX11_steady [.ref 0, .int c, .int e] I L (fun r I1 L1 => EI 60 mX12_steady [.ref 58, .int c, .int e] I1 L1 (fun r' I2 L2 => r' = r ∧ Inv W I2 L2)) := by
  obtain ⟨hK, ht, hst, hp, lv, nf, np, nb, nl, npl, nF, h1, h2, h3, h4⟩ := id H
  exact op_steady h1 h2 h3 (fun J x1 x2 x3 => Inv.ask57 hK ht hst hp h1 h2 h4 x1 x2 x3) c e
theorem inv_steadyWays {W : Nat → Int64} {I : st_I} {L : st_L} (H : Inv W I L) (c : Int32) :
    EI 60 mX11_steadyWays [.ref 0, .int c] I L (fun r I1 L1 => EI 60 mX12_steadyWays [.ref 58, .int c] I1 L1 (fun r' I2 L2 => r' = r ∧ Inv W I2 L2)) := by
  obtain ⟨hK, ht, hst, hp, lv, nf, np, nb, nl, npl, nF, h1, h2, h3, h4⟩ := id H
  exact op_steadyWays h1 h2 h3 (fun J x1 x2 x3 => Inv.ask57 hK ht hst hp h1 h2 h4 x1 x2 x3) c
theorem inv_flips {W : Nat → Int64} {I : st_I} {L : st_L} (H : Inv W I L) (c e : Int32) :
    EI 60 mX11_flips [.ref 0, .int c, .int e] I L (fun r I1 L1 => EI 60 mX12_flips [.ref 58, .int c, .int e] I1 L1 (fun r' I2 L2 => r' = r ∧ Inv W I2 L2)) := by
  obtain ⟨hK, ht, hst, hp, lv, nf, np, nb, nl, npl, nF, h1, h2, h3, h4⟩ := id H
  exact op_flips h1 h2 h3 (fun J x1 x2 x3 => Inv.ask57 hK ht hst hp h1 h2 h4 x1 x2 x3) c e
theorem inv_flipWays {W : Nat → Int64} {I : st_I} {L : st_L} (H : Inv W I L) (c : Int32) :
    EI 60 mX11_flipWays [.ref 0, .int c] I L (fun r I1 L1 => EI 60 mX12_flipWays [.ref 58, .int c] I1 L1 (fun r' I2 L2 => r' = r ∧ Inv W I2 L2)) := by
  obtain ⟨hK, ht, hst, hp, lv, nf, np, nb, nl, npl, nF, h1, h2, h3, h4⟩ := id H
  exact op_flipWays h1 h2 h3 (fun J x1 x2 x3 => Inv.ask57 hK ht hst hp h1 h2 h4 x1 x2 x3) c
theorem inv_knowing {W : Nat → Int64} {I : st_I} {L : st_L} (H : Inv W I L) (c e : Int32) :
    EI 60 mX11_knowing [.ref 0, .int c, .int e] I L (fun r I1 L1 => EI 60 mX12_knowing [.ref 58, .int c, .int e] I1 L1 (fun r' I2 L2 => r' = r ∧ Inv W I2 L2)) := by
  obtain ⟨hK, ht, hst, hp, lv, nf, np, nb, nl, npl, nF, h1, h2, h3, h4⟩ := id H
  exact op_knowing h1 h2 h3 (fun J x1 x2 x3 => Inv.ask57 hK ht hst hp h1 h2 h4 x1 x2 x3) c e
theorem inv_knowingWays {W : Nat → Int64} {I : st_I} {L : st_L} (H : Inv W I L) (c : Int32) :
    EI 60 mX11_knowingWays [.ref 0, .int c] I L (fun r I1 L1 => EI 60 mX12_knowingWays [.ref 58, .int c] I1 L1 (fun r' I2 L2 => r' = r ∧ Inv W I2 L2)) := by
  obtain ⟨hK, ht, hst, hp, lv, nf, np, nb, nl, npl, nF, h1, h2, h3, h4⟩ := id H
  exact op_knowingWays h1 h2 h3 (fun J x1 x2 x3 => Inv.ask57 hK ht hst hp h1 h2 h4 x1 x2 x3) c
theorem inv_kinds {W : Nat → Int64} {I : st_I} {L : st_L} (H : Inv W I L) (c e : Int32) :
    EI 60 mX11_kinds [.ref 0, .int c, .int e] I L (fun r I1 L1 => EI 60 mX12_kinds [.ref 58, .int c, .int e] I1 L1 (fun r' I2 L2 => r' = r ∧ Inv W I2 L2)) := by
  obtain ⟨hK, ht, hst, hp, lv, nf, np, nb, nl, npl, nF, h1, h2, h3, h4⟩ := id H
  exact op_kinds h1 h2 h3 (fun J x1 x2 x3 => Inv.ask57 hK ht hst hp h1 h2 h4 x1 x2 x3) c e
theorem inv_kindWays {W : Nat → Int64} {I : st_I} {L : st_L} (H : Inv W I L) (c s : Int32) :
    EI 60 mX11_kindWays [.ref 0, .int c, .int s] I L (fun r I1 L1 => EI 60 mX12_kindWays [.ref 58, .int c, .int s] I1 L1 (fun r' I2 L2 => r' = r ∧ Inv W I2 L2)) := by
  obtain ⟨hK, ht, hst, hp, lv, nf, np, nb, nl, npl, nF, h1, h2, h3, h4⟩ := id H
  exact op_kindWays h1 h2 h3 (fun J x1 x2 x3 => Inv.ask57 hK ht hst hp h1 h2 h4 x1 x2 x3) c s
theorem inv_small {W : Nat → Int64} {I : st_I} {L : st_L} (H : Inv W I L) (c : Int32) :
    EI 60 mX11_small [.ref 0, .int c] I L (fun r I1 L1 => EI 60 mX12_small [.ref 58, .int c] I1 L1 (fun r' I2 L2 => r' = r ∧ Inv W I2 L2)) := by
  obtain ⟨hK, ht, hst, hp, lv, nf, np, nb, nl, npl, nF, h1, h2, h3, h4⟩ := id H
  exact op_small h1 h2 h3 (fun J x1 x2 x3 => Inv.ask57 hK ht hst hp h1 h2 h4 x1 x2 x3) c
theorem inv_near {W : Nat → Int64} {I : st_I} {L : st_L} (H : Inv W I L) (c e : Int32) :
    EI 60 mX11_near [.ref 0, .int c, .int e] I L (fun r I1 L1 => EI 60 mX12_near [.ref 58, .int c, .int e] I1 L1 (fun r' I2 L2 => r' = r ∧ Inv W I2 L2)) := by
  obtain ⟨hK, ht, hst, hp, lv, nf, np, nb, nl, npl, nF, h1, h2, h3, h4⟩ := id H
  exact op_near h1 h2 h3 (fun J x1 x2 x3 => Inv.ask57 hK ht hst hp h1 h2 h4 x1 x2 x3) c e
theorem inv_nearWays {W : Nat → Int64} {I : st_I} {L : st_L} (H : Inv W I L) (c : Int32) :
    EI 60 mX11_nearWays [.ref 0, .int c] I L (fun r I1 L1 => EI 60 mX12_nearWays [.ref 58, .int c] I1 L1 (fun r' I2 L2 => r' = r ∧ Inv W I2 L2)) := by
  obtain ⟨hK, ht, hst, hp, lv, nf, np, nb, nl, npl, nF, h1, h2, h3, h4⟩ := id H
  exact op_nearWays h1 h2 h3 (fun J x1 x2 x3 => Inv.ask57 hK ht hst hp h1 h2 h4 x1 x2 x3) c
theorem inv_say {W : Nat → Int64} {I : st_I} {L : st_L} (H : Inv W I L) (c : Int32) :
    EI 60 mX11_say [.ref 0, .int c] I L (fun r I1 L1 => EI 60 mX12_say [.ref 58, .int c] I1 L1 (fun r' I2 L2 => r' = r ∧ Inv W I2 L2)) := by
  obtain ⟨hK, ht, hst, hp, lv, nf, np, nb, nl, npl, nF, h1, h2, h3, h4⟩ := id H
  exact op_say h1 h2 h3 h4 (fun J x1 x2 x3 => Inv.ask hK ht hst hp h1 h2 x1 x2 x3) c
theorem inv_turned {W : Nat → Int64} {I : st_I} {L : st_L} (H : Inv W I L) (c : Int32) :
    EI 60 mX11_turned [.ref 0, .int c] I L (fun r I1 L1 => EI 60 mX12_turned [.ref 58, .int c] I1 L1 (fun r' I2 L2 => r' = r ∧ Inv W I2 L2)) := by
  obtain ⟨hK, ht, hst, hp, lv, nf, np, nb, nl, npl, nF, h1, h2, h3, h4⟩ := id H
  exact op_turned h1 h2 h3 h4 (fun J x1 x2 x3 => Inv.ask hK ht hst hp h1 h2 x1 x2 x3) c
