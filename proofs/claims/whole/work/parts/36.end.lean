theorem fk_sdI : fm_sd fk_Inv := by
  refine ⟨fun s => (fl_FL.2.2.2.2.2 s).1.1, fun I J G pa pb hI => ?_⟩
  obtain ⟨hpa, D, h⟩ := hI
  refine ⟨fun f n m tp rs => ?_, fun f op aa => ?_, fun f => ?_, ?_, fun f a b c fu x y z hx hy hz => ?_, fun g => ?_, fun wh => ?_⟩
  · obtain ⟨a1, a2, a3, a4, a5⟩ := fk_opF pa pb h f n m tp rs
    exact ⟨a1, a2, a3, a4, hpa, a5⟩
  · obtain ⟨a1, a2, a3, a4, a5, D', a6⟩ := fk_opE h f op aa
    refine ⟨a1, a2, a3, a4, a5, fun J' hJ' => ⟨hpa, D', fk_iv_fr a6 (fun _ _ _ _ => rfl) (fun k i s hk => ?_) (fun _ _ _ _ => rfl)⟩⟩
    rcases hJ' with w | w
    · rw [w]
    · rw [w, fk_ne _ _ (by omega)]
  · obtain ⟨a1, a2, a3, a4, a5⟩ := fk_opR h f
    exact ⟨a1, a2, a3, a4, hpa, a5⟩
  · obtain ⟨a1, a2, a3, a4, a5⟩ := fk_opC pb h hpa
    exact ⟨a1, a2, a3, a4, a5⟩
  · obtain ⟨a1, a2, a3⟩ := fk_opU fl_FL pa pb h f x y z fu (hx ▸ (fl_FL.2.2.2.2.2 a).1) (hy ▸ (fl_FL.2.2.2.2.2 b).1) (hz ▸ (fl_FL.2.2.2.2.2 c).1) rfl
    refine ⟨a1, a2, fun G1 hG1 => ?_⟩
    obtain ⟨b1, b2, b3, b4⟩ := a3 G1 hG1
    exact ⟨b1, b2, b3, hpa, b4⟩
  · obtain ⟨a1, a2, a3⟩ := fk_opG h g
    refine ⟨a1, a2, fun G1 hG1 => ?_⟩
    obtain ⟨b1, b2, b3, b4⟩ := a3 G1 hG1
    exact ⟨b1, b2, b3, hpa, b4⟩
  · obtain ⟨a1, a2, a3, a4⟩ := fk_opN pa pb h wh
    exact ⟨a1, a2, a3, hpa, a4⟩
theorem fk_I0 : fk_Inv (fun _ _ _ => 0) (fun _ _ _ => 0) (fun _ _ _ => 0) (14, 0) (19, 0) := by
  refine ⟨Or.inr rfl, (fun _ => false, fun _ => 0, fun _ => 0, fun _ => 0, fun _ _ => 0, fun _ => 0, fun _ _ => 0, fun _ _ => 0), fun g _ => ⟨rfl, fun _ => rfl, fun q => absurd (show false = true from q) (by decide)⟩, fun g _ => ⟨rfl, fun q => absurd (show false = true from q) (by decide)⟩, fun j _ => Or.inr ?_, ⟨rfl, rfl⟩, fun g _ => fk_Vz _, Or.inl ⟨rfl, rfl⟩⟩
  show vp_in 0 40
  unfold vp_in
  decide
theorem i_vc : Claimed_1_1 ∧ Claimed_1_2 := fm_vc fk_sdI fk_I0
