/-! the law's loop: what a call of both leaves -/
def Kq (s s' : jH) : Prop := ∀ x, (x < 388 ∨ 434 ≤ x) → s' x = s x
theorem Kq.rfl9 {s : jH} : Kq s s := fun _ _ => rfl
theorem Kq.s {s s' : jH} {a k : Nat} {v : Int} (h : Kq s s') (ha : 388 ≤ a ∧ a < 434) : Kq s (hs s' a k v) := fun x hx => by rw [hs_O (by omega)]; exact h x hx
theorem Kq.w {s s' : jH} {a : Nat} {f : Nat → Int} (h : Kq s s') (ha : 388 ≤ a ∧ a < 434) : Kq s (hw s' a f) := fun x hx => by rw [hw_o (by omega)]; exact h x hx
theorem Kq.tell {s s' : jH} {v : Int} (h : Kq s s') : Kq s (Ttell s' v) := by
  unfold Ttell
  split
  · exact (h.s (by decide)).s (by decide)
  · exact h.s (by decide)
theorem Kq.rem {s s' : jH} {v : Int} (h : Kq s s') : Kq s (Trem s' v) := fun x hx => by rw [Trem_o (by omega) (by omega) (by omega)]; exact h x hx
theorem Kq.dd {s s' : jH} {v : Int} (h : Kq s s') : Kq s (dT s' v).2 := h.tell
theorem Kq.add {s s' : jH} {v : Int} (h : Kq s s') : Kq s (Tadd s' v) := (h.s (by decide)).s (by decide)
theorem Kq.four {s s' : jH} {v : Int} (h : Kq s s') : Kq s (Tfour s' v) := h.add.add.add.add
theorem Kq.lay {s s' : jH} {o : Nat} (h : Kq s s') : Kq s (Tlay s' o) := (h.w (by decide)).s (by decide)
theorem Kq.undo9 {s s' : jH} (h : Kq s s') : Kq s (Tundo s') := (h.s (by decide)).w (by decide)
theorem Kq.take {s s' : jH} {p n : Int} (h : Kq s s') : Kq s (Ttake s' p n) := (h.w (by decide)).w (by decide)
theorem Kq.putin {s s' : jH} {p n : Int} (h : Kq s s') : Kq s (Tputin s' p n) := h.w (by decide)
theorem Kq.slot {s s' : jH} {k : Int} {L : List Int} (h : Kq s s') : Kq s (Tslot s' k L) := h.w (by decide)
theorem Kq.fil {s s' : jH} {k : Nat} {L : List Int} (h : Kq s s') : Kq s (Tfil s' k L) := h.w (by decide)
theorem Kq.pg {s s' : jH} {a b : Int} (h : Kq s s') : Kq s (Tpg s' a b) := (h.s (by decide)).s (by decide)
theorem Kq.lat {s s' : jH} {a : Int} (h : Kq s s') : Kq s (lat s' a) := h.s (by decide)
theorem Kq.fs {s s' : jH} {a b : Int} (h : Kq s s') : Kq s (Tfs s' a b) := ((h.s (by decide)).s (by decide)).s (by decide)
theorem Kq.mv {s s' : jH} {p n q : Int} (h : Kq s s') : Kq s (Tmv s' p n q) := h.take.putin
theorem Kq.file {s : jH} {a : Int} : Kq s (Dfile s a).2 := by
  unfold Dfile
  repeat' (first | exact Kq.rfl9 | refine Kq.dd ?_ | refine Kq.slot ?_ | refine Kq.pg ?_ | refine Kq.fil ?_ | refine Kq.mv ?_ | refine Kq.putin ?_ | refine Kq.take ?_ | refine Kq.lay ?_ | refine Kq.undo9 ?_ | refine Kq.rem ?_ | refine Kq.lat ?_ | refine Kq.fs ?_ | refine Kq.w ?_ (by decide) | refine Kq.s ?_ (by decide) | split)
theorem Kq.bring {s : jH} {a : Int} : Kq s (Dbring s a).2 := by
  unfold Dbring
  repeat' (first | exact Kq.rfl9 | refine Kq.dd ?_ | refine Kq.slot ?_ | refine Kq.pg ?_ | refine Kq.fil ?_ | refine Kq.mv ?_ | refine Kq.putin ?_ | refine Kq.take ?_ | refine Kq.lay ?_ | refine Kq.undo9 ?_ | refine Kq.rem ?_ | refine Kq.lat ?_ | refine Kq.fs ?_ | refine Kq.w ?_ (by decide) | refine Kq.s ?_ (by decide) | split)
theorem Kq.undo {s : jH} : Kq s (Dundo s ).2 := by
  unfold Dundo
  repeat' (first | exact Kq.rfl9 | refine Kq.dd ?_ | refine Kq.slot ?_ | refine Kq.pg ?_ | refine Kq.fil ?_ | refine Kq.mv ?_ | refine Kq.putin ?_ | refine Kq.take ?_ | refine Kq.lay ?_ | refine Kq.undo9 ?_ | refine Kq.rem ?_ | refine Kq.lat ?_ | refine Kq.fs ?_ | refine Kq.w ?_ (by decide) | refine Kq.s ?_ (by decide) | split)
theorem Kq.adv {s : jH} : Kq s (Dadv s ).2 := by
  unfold Dadv
  repeat' (first | exact Kq.rfl9 | refine Kq.dd ?_ | refine Kq.slot ?_ | refine Kq.pg ?_ | refine Kq.fil ?_ | refine Kq.mv ?_ | refine Kq.putin ?_ | refine Kq.take ?_ | refine Kq.lay ?_ | refine Kq.undo9 ?_ | refine Kq.rem ?_ | refine Kq.lat ?_ | refine Kq.fs ?_ | refine Kq.w ?_ (by decide) | refine Kq.s ?_ (by decide) | split)
theorem Kq.swap {s : jH} : Kq s (Dswap s ).2 := by
  unfold Dswap
  repeat' (first | exact Kq.rfl9 | refine Kq.dd ?_ | refine Kq.slot ?_ | refine Kq.pg ?_ | refine Kq.fil ?_ | refine Kq.mv ?_ | refine Kq.putin ?_ | refine Kq.take ?_ | refine Kq.lay ?_ | refine Kq.undo9 ?_ | refine Kq.rem ?_ | refine Kq.lat ?_ | refine Kq.fs ?_ | refine Kq.w ?_ (by decide) | refine Kq.s ?_ (by decide) | split)
theorem Kq.bar {s : jH} {a b : Int} : Kq s (Dbar s a b).2 := by
  unfold Dbar
  repeat' (first | exact Kq.rfl9 | refine Kq.dd ?_ | refine Kq.slot ?_ | refine Kq.pg ?_ | refine Kq.fil ?_ | refine Kq.mv ?_ | refine Kq.putin ?_ | refine Kq.take ?_ | refine Kq.lay ?_ | refine Kq.undo9 ?_ | refine Kq.rem ?_ | refine Kq.lat ?_ | refine Kq.fs ?_ | refine Kq.w ?_ (by decide) | refine Kq.s ?_ (by decide) | split)
theorem Kq.set {s : jH} {a b : Int} : Kq s (Dset s a b).2 := by
  unfold Dset
  repeat' (first | exact Kq.rfl9 | refine Kq.dd ?_ | refine Kq.slot ?_ | refine Kq.pg ?_ | refine Kq.fil ?_ | refine Kq.mv ?_ | refine Kq.putin ?_ | refine Kq.take ?_ | refine Kq.lay ?_ | refine Kq.undo9 ?_ | refine Kq.rem ?_ | refine Kq.lat ?_ | refine Kq.fs ?_ | refine Kq.w ?_ (by decide) | refine Kq.s ?_ (by decide) | split)
theorem Kq.drop {s : jH} {a : Int} : Kq s (Ddrop s a).2 := by
  unfold Ddrop
  repeat' (first | exact Kq.rfl9 | refine Kq.dd ?_ | refine Kq.slot ?_ | refine Kq.pg ?_ | refine Kq.fil ?_ | refine Kq.mv ?_ | refine Kq.putin ?_ | refine Kq.take ?_ | refine Kq.lay ?_ | refine Kq.undo9 ?_ | refine Kq.rem ?_ | refine Kq.lat ?_ | refine Kq.fs ?_ | refine Kq.w ?_ (by decide) | refine Kq.s ?_ (by decide) | split)
theorem Kq.spoil {s : jH} {a b c : Int} : Kq s (Dspoil s a b c).2 := by
  unfold Dspoil
  repeat' (first | exact Kq.rfl9 | refine Kq.dd ?_ | refine Kq.slot ?_ | refine Kq.pg ?_ | refine Kq.fil ?_ | refine Kq.mv ?_ | refine Kq.putin ?_ | refine Kq.take ?_ | refine Kq.lay ?_ | refine Kq.undo9 ?_ | refine Kq.rem ?_ | refine Kq.lat ?_ | refine Kq.fs ?_ | refine Kq.w ?_ (by decide) | refine Kq.s ?_ (by decide) | split)
theorem Kq.cut {s : jH} {a b : Int} : Kq s (Dcut s a b).2 := by
  unfold Dcut
  repeat' (first | exact Kq.rfl9 | refine Kq.dd ?_ | refine Kq.slot ?_ | refine Kq.pg ?_ | refine Kq.fil ?_ | refine Kq.mv ?_ | refine Kq.putin ?_ | refine Kq.take ?_ | refine Kq.lay ?_ | refine Kq.undo9 ?_ | refine Kq.rem ?_ | refine Kq.lat ?_ | refine Kq.fs ?_ | refine Kq.w ?_ (by decide) | refine Kq.s ?_ (by decide) | split)
theorem Kq.put {s : jH} {a b : Int} : Kq s (Dput s a b).2 := by
  unfold Dput
  repeat' (first | exact Kq.rfl9 | refine Kq.dd ?_ | refine Kq.slot ?_ | refine Kq.pg ?_ | refine Kq.fil ?_ | refine Kq.mv ?_ | refine Kq.putin ?_ | refine Kq.take ?_ | refine Kq.lay ?_ | refine Kq.undo9 ?_ | refine Kq.rem ?_ | refine Kq.lat ?_ | refine Kq.fs ?_ | refine Kq.w ?_ (by decide) | refine Kq.s ?_ (by decide) | split)
theorem Kq.seal {s : jH} {a : Int} : Kq s (Dseal s a).2 := by
  unfold Dseal
  repeat' (first | exact Kq.rfl9 | refine Kq.dd ?_ | refine Kq.slot ?_ | refine Kq.pg ?_ | refine Kq.fil ?_ | refine Kq.mv ?_ | refine Kq.putin ?_ | refine Kq.take ?_ | refine Kq.lay ?_ | refine Kq.undo9 ?_ | refine Kq.rem ?_ | refine Kq.lat ?_ | refine Kq.fs ?_ | refine Kq.w ?_ (by decide) | refine Kq.s ?_ (by decide) | split)
theorem Kq.move {s : jH} {a b c : Int} : Kq s (Dmove s a b c).2 := by
  unfold Dmove
  repeat' (first | exact Kq.rfl9 | refine Kq.dd ?_ | refine Kq.slot ?_ | refine Kq.pg ?_ | refine Kq.fil ?_ | refine Kq.mv ?_ | refine Kq.putin ?_ | refine Kq.take ?_ | refine Kq.lay ?_ | refine Kq.undo9 ?_ | refine Kq.rem ?_ | refine Kq.lat ?_ | refine Kq.fs ?_ | refine Kq.w ?_ (by decide) | refine Kq.s ?_ (by decide) | split)
theorem Kq.write {s : jH} {a : Int} : Kq s (Dwrite s a).2 := by
  unfold Dwrite
  repeat' (first | exact Kq.rfl9 | refine Kq.dd ?_ | refine Kq.slot ?_ | refine Kq.pg ?_ | refine Kq.fil ?_ | refine Kq.mv ?_ | refine Kq.putin ?_ | refine Kq.take ?_ | refine Kq.lay ?_ | refine Kq.undo9 ?_ | refine Kq.rem ?_ | refine Kq.lat ?_ | refine Kq.fs ?_ | refine Kq.w ?_ (by decide) | refine Kq.s ?_ (by decide) | split)
theorem Kq.make {s : jH} {a : Int} : Kq s (Dmake s a).2 := by
  unfold Dmake
  repeat' (first | exact Kq.rfl9 | refine Kq.dd ?_ | refine Kq.slot ?_ | refine Kq.pg ?_ | refine Kq.fil ?_ | refine Kq.mv ?_ | refine Kq.putin ?_ | refine Kq.take ?_ | refine Kq.lay ?_ | refine Kq.undo9 ?_ | refine Kq.rem ?_ | refine Kq.lat ?_ | refine Kq.fs ?_ | refine Kq.w ?_ (by decide) | refine Kq.s ?_ (by decide) | split)
theorem Kq.join {s : jH} {a b c : Int} : Kq s (Djoin s a b c).2 := by
  unfold Djoin
  repeat' (first | exact Kq.rfl9 | refine Kq.dd ?_ | refine Kq.slot ?_ | refine Kq.pg ?_ | refine Kq.fil ?_ | refine Kq.mv ?_ | refine Kq.putin ?_ | refine Kq.take ?_ | refine Kq.lay ?_ | refine Kq.undo9 ?_ | refine Kq.rem ?_ | refine Kq.lat ?_ | refine Kq.fs ?_ | refine Kq.w ?_ (by decide) | refine Kq.s ?_ (by decide) | split)
theorem Kq.turn {s : jH} {a b : Int} : Kq s (Dturn s a b).2 := by
  unfold Dturn
  repeat' (first | exact Kq.rfl9 | refine Kq.dd ?_ | refine Kq.slot ?_ | refine Kq.pg ?_ | refine Kq.fil ?_ | refine Kq.mv ?_ | refine Kq.putin ?_ | refine Kq.take ?_ | refine Kq.lay ?_ | refine Kq.undo9 ?_ | refine Kq.rem ?_ | refine Kq.lat ?_ | refine Kq.fs ?_ | refine Kq.w ?_ (by decide) | refine Kq.s ?_ (by decide) | split)
theorem Kq.apply {s : jH} {a : Int} : Kq s (Dapply s a).2 := by
  unfold Dapply
  repeat' (first | exact Kq.rfl9 | refine Kq.dd ?_ | refine Kq.slot ?_ | refine Kq.pg ?_ | refine Kq.fil ?_ | refine Kq.mv ?_ | refine Kq.putin ?_ | refine Kq.take ?_ | refine Kq.lay ?_ | refine Kq.undo9 ?_ | refine Kq.rem ?_ | refine Kq.lat ?_ | refine Kq.fs ?_ | refine Kq.w ?_ (by decide) | refine Kq.s ?_ (by decide) | split)
theorem Kq.begin {s : jH} {a : Int} : Kq s (Dbegin s a).2 := by
  unfold Dbegin
  repeat' (first | exact Kq.rfl9 | refine Kq.dd ?_ | refine Kq.slot ?_ | refine Kq.pg ?_ | refine Kq.fil ?_ | refine Kq.mv ?_ | refine Kq.putin ?_ | refine Kq.take ?_ | refine Kq.lay ?_ | refine Kq.undo9 ?_ | refine Kq.rem ?_ | refine Kq.lat ?_ | refine Kq.fs ?_ | refine Kq.w ?_ (by decide) | refine Kq.s ?_ (by decide) | split)
theorem Kq.recipe {s : jH} {a : Int} : Kq s (Drecipe s a).2 := by
  unfold Drecipe
  generalize rcX s = X
  generalize rcY s = Y
  generalize rcL s = L
  split
  · exact Kq.dd Kq.rfl9
  · split
    · exact Kq.dd (Kq.fs Kq.rfl9)
    · split
      · exact Kq.dd (Kq.fs Kq.rfl9)
      · exact Kq.dd (Kq.slot (Kq.rem (Kq.fs Kq.rfl9)))
theorem Kq.terms {s : jH} {a b : Int} : Kq s (Tterms s a b) := by
  unfold Tterms
  split
  · exact (Kq.rfl9.s (by decide)).tell
  · exact Kq.rfl9.tell
theorem Kq.feed {s : jH} {a b c d e : Int} : Kq s (Tfeed s a b c d e) := by
  unfold Tfeed
  split
  · exact Kq.rfl9.four.four.four.four.four
  · exact Kq.rfl9
theorem Kq.tend {s : jH} {a : Int} : Kq s (Tend s a) := by
  unfold Tend
  split
  · exact Kq.rfl9.s (by decide)
  · exact Kq.rfl9
theorem PR.f9 {D : Int × jH} {z : Int} {h : jH} (p : PR D z h) : PRF D z h := ⟨p.1, by rw [p.2]; exact RF.rfl'⟩
theorem Tz_O {s : jH} {x : Nat} (h : x ≠ 388) : Tz s x = s x := hs_O h
theorem G_kr {h h1 h2 : jH} {t z1 z2 : Int} {D : jH → Int × jH} (agD : ∀ s s', Ag s s' → AgD (D s) (D s')) (kp : ∀ s, Kq s (D s).2) (p1 : PK h t (D (Tz h)) z1 h1) (p2 : PRF (D (Tz h1)) z2 h2) : z2 = z1 ∧ IC h2 h2 (t + 1) ∧ h2 1000000 = h 1000000 ∧ h2 1000001 = h 1000001 := by
  obtain ⟨a1, a2, a3⟩ := p1
  obtain ⟨b1, b2⟩ := p2
  have ag : Ag (Tz h1) (Tz h) := Ag.z (fun x hx => a3 x hx)
  have gd := agD _ _ ag
  have low : ∀ x, (x < 388 ∨ 434 ≤ x) → h2 x = h1 x := fun x hx => by rw [b2.1 x (by omega), kp (Tz h1) x hx, Tz_O (by omega)]
  refine ⟨by rw [b1, a1, gd.1], ?_, by rw [low 1000000 (by omega), a3 1000000 (by omega)], by rw [low 1000001 (by omega), a3 1000001 (by omega)]⟩
  exact (a2.ag (fun x hx => low x (by omega)) gd.2).rf b2
theorem G_rd {h h2 : jH} {t : Int} (hI : IC h h t) (e : h2 = Tz h) : IC h2 h2 (t + 1) ∧ h2 1000000 = h 1000000 ∧ h2 1000001 = h 1000001 := by
  subst e
  have i2 : IC (Tz h) (Tz h) t := hI.z.ag (fun x hx => Tz_O (by omega)) (fun _ _ => rfl)
  exact ⟨i2.mono (by omega), Tz_O (by decide), Tz_O (by decide)⟩
theorem AgD.terms {s s' : jH} (h : Ag s s') (a b : Int) : AgD (Aterms s a b, Tterms s a b) (Aterms s' a b, Tterms s' a b) := ⟨by unfold Aterms; rw [h 390 (by decide)], h.terms a b⟩
theorem AgD.feed {s s' : jH} (h : Ag s s') (a b c d e : Int) : AgD (Afeed s, Tfeed s a b c d e) (Afeed s', Tfeed s' a b c d e) := ⟨by unfold Afeed; rw [h 388 (by decide)], h.feed a b c d e⟩
theorem AgD.tend {s s' : jH} (h : Ag s s') (a : Int) : AgD (Aend s a, Tend s a) (Aend s' a, Tend s' a) := ⟨by unfold Aend; rw [h 388 (by decide)], h.tend a⟩
theorem je_icmp_same {l : Launch} {j pc : Nat} {L : jLo} {st : List Value} {G G' : jG} {v : Option Value} {x : Int32} {off : Int} {tgt : Nat} (hi : jIns j pc = some (.if_icmp .eq off, 3, 0)) (ht : (pc : Int) + off = (tgt : Int)) (kt : jE l j tgt L st G v G') : jE l j pc L (.int x :: .int x :: st) G v G' := by
  intro p e R s m args below meth c D dA base ro N0 S0 Q ls H locs cells slots hC hc hs hend hL hI
  exact lv_icmp_eq hC.1 hC.2.1 (jdec hi).1 ht (fun z => kt p e R s m args below meth c D dA base ro N0 S0 Q ls H locs cells slots hC hc hs hend hL hI) (fun z => absurd rfl z)
theorem tl_icmp_same {l : Launch} {j pc : Nat} {L : jLo} {st : List Value} {h : jH} {P : Option Value → jH → Prop} {x : Int32} {off : Int} {tgt : Nat} (hi : jIns j pc = some (.if_icmp .eq off, 3, 0)) (ht : (pc : Int) + off = (tgt : Int)) (k : jT l j tgt L st h P) : jT l j pc L (.int x :: .int x :: st) h P := by
  obtain ⟨v, h', hp, hE⟩ := k
  exact ⟨v, h', hp, je_icmp_same hi ht hE⟩
