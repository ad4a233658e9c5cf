theorem ab_ch {α : Type} {f : α → Bool} {l : List α} (n : Nat) (h1 : (l.take n).all f = true) (h2 : (l.drop n).all f = true) : l.all f = true := by
  rw [← List.take_append_drop n l, List.all_append, h1, h2]
  rfl
theorem ab_dL0 : ((ab_cL.drop 0).take 70).all (ab_dk code) = true := by decide +kernel
theorem ab_dL70 : ((ab_cL.drop 70).take 70).all (ab_dk code) = true := by decide +kernel
theorem ab_dL140 : ((ab_cL.drop 140).take 70).all (ab_dk code) = true := by decide +kernel
theorem ab_dL210 : ((ab_cL.drop 210).take 70).all (ab_dk code) = true := by decide +kernel
theorem ab_dL280 : ((ab_cL.drop 280).take 70).all (ab_dk code) = true := by decide +kernel
theorem ab_dL350 : ((ab_cL.drop 350).take 70).all (ab_dk code) = true := by decide +kernel
theorem ab_dL420 : ((ab_cL.drop 420).take 70).all (ab_dk code) = true := by decide +kernel
theorem ab_dL490 : ((ab_cL.drop 490).take 70).all (ab_dk code) = true := by decide +kernel
theorem ab_dL560 : ((ab_cL.drop 560).take 70).all (ab_dk code) = true := by decide +kernel
theorem ab_dL630 : ((ab_cL.drop 630).take 70).all (ab_dk code) = true := by decide +kernel
theorem ab_dL700 : ((ab_cL.drop 700).take 70).all (ab_dk code) = true := by decide +kernel
theorem ab_dL770 : ((ab_cL.drop 770).take 70).all (ab_dk code) = true := by decide +kernel
theorem ab_dL840 : ((ab_cL.drop 840).take 70).all (ab_dk code) = true := by decide +kernel
theorem ab_dL910 : ((ab_cL.drop 910).take 70).all (ab_dk code) = true := by decide +kernel
theorem ab_dL : ab_cL.all (ab_dk code) = true := by
  have e984 : (ab_cL.drop 980).all (ab_dk code) = true := by decide +kernel
  have e910 : (ab_cL.drop 910).all (ab_dk code) = true := ab_ch 70 ab_dL910 (by rw [List.drop_drop]; exact e984)
  have e840 : (ab_cL.drop 840).all (ab_dk code) = true := ab_ch 70 ab_dL840 (by rw [List.drop_drop]; exact e910)
  have e770 : (ab_cL.drop 770).all (ab_dk code) = true := ab_ch 70 ab_dL770 (by rw [List.drop_drop]; exact e840)
  have e700 : (ab_cL.drop 700).all (ab_dk code) = true := ab_ch 70 ab_dL700 (by rw [List.drop_drop]; exact e770)
  have e630 : (ab_cL.drop 630).all (ab_dk code) = true := ab_ch 70 ab_dL630 (by rw [List.drop_drop]; exact e700)
  have e560 : (ab_cL.drop 560).all (ab_dk code) = true := ab_ch 70 ab_dL560 (by rw [List.drop_drop]; exact e630)
  have e490 : (ab_cL.drop 490).all (ab_dk code) = true := ab_ch 70 ab_dL490 (by rw [List.drop_drop]; exact e560)
  have e420 : (ab_cL.drop 420).all (ab_dk code) = true := ab_ch 70 ab_dL420 (by rw [List.drop_drop]; exact e490)
  have e350 : (ab_cL.drop 350).all (ab_dk code) = true := ab_ch 70 ab_dL350 (by rw [List.drop_drop]; exact e420)
  have e280 : (ab_cL.drop 280).all (ab_dk code) = true := ab_ch 70 ab_dL280 (by rw [List.drop_drop]; exact e350)
  have e210 : (ab_cL.drop 210).all (ab_dk code) = true := ab_ch 70 ab_dL210 (by rw [List.drop_drop]; exact e280)
  have e140 : (ab_cL.drop 140).all (ab_dk code) = true := ab_ch 70 ab_dL140 (by rw [List.drop_drop]; exact e210)
  have e70 : (ab_cL.drop 70).all (ab_dk code) = true := ab_ch 70 ab_dL70 (by rw [List.drop_drop]; exact e140)
  have e0 : (ab_cL.drop 0).all (ab_dk code) = true := ab_ch 70 ab_dL0 (by rw [List.drop_drop]; exact e70)
  exact e0
