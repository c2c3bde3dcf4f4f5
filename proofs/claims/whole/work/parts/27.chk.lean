/-! what else is checked of each instruction: which methods are called, which rows are made -/
def aIm (e : aN) : Bool := match e.2.1 with
  | .newarray ty => decide (aKind ty < 99)
  | .invokestatic _ => (match e.2.2.2.1 with
    | 1 => aPl e.2.2.2.2.1 0
    | 4 => aPl e.2.2.2.2.1 0
    | _ => true)
  | .invokevirtual _ => (match e.2.2.2.1 with
    | 2 => aPl e.2.2.2.2.1 1
    | 6 => false
    | _ => true)
  | .invokespecial _ => (match e.2.2.2.1 with
    | 3 => aPl e.2.2.2.2.1 2
    | 5 => aPl e.2.2.2.2.1 2
    | _ => true)
  | _ => true
set_option maxRecDepth 100000 in
theorem aMm0 : aML0.all (fun q => (aMt q.1).1.all aIm) = true := by decide +kernel
set_option maxRecDepth 100000 in
theorem aMi0 : ∀ q ∈ aML0, (aMt q.1).1.all (aIc q.1) = true := List.forall_mem_cons.mpr ⟨aI0, List.forall_mem_cons.mpr ⟨aI1, List.forall_mem_cons.mpr ⟨aI2, List.forall_mem_cons.mpr ⟨aI3, List.forall_mem_cons.mpr ⟨aI4, List.forall_mem_cons.mpr ⟨aI5, List.forall_mem_cons.mpr ⟨aI6, List.forall_mem_cons.mpr ⟨aI7, List.forall_mem_cons.mpr ⟨aI8, List.forall_mem_cons.mpr ⟨aI9, List.forall_mem_cons.mpr ⟨aI10, List.forall_mem_cons.mpr ⟨aI11, List.forall_mem_cons.mpr ⟨aI12, List.forall_mem_cons.mpr ⟨aI13, List.forall_mem_cons.mpr ⟨aI14, List.forall_mem_cons.mpr ⟨aI15, List.forall_mem_cons.mpr ⟨aI16, List.forall_mem_cons.mpr ⟨aI17, List.forall_mem_cons.mpr ⟨aI18, List.forall_mem_cons.mpr ⟨aI19, List.forall_mem_cons.mpr ⟨aI20, List.forall_mem_cons.mpr ⟨aI21, List.forall_mem_cons.mpr ⟨aI22, List.forall_mem_cons.mpr ⟨aI23, List.forall_mem_cons.mpr ⟨aI24, List.forall_mem_cons.mpr ⟨aI25, List.forall_mem_cons.mpr ⟨aI26, List.forall_mem_cons.mpr ⟨aI27, List.forall_mem_cons.mpr ⟨aI28, List.forall_mem_cons.mpr ⟨aI29, List.forall_mem_cons.mpr ⟨aI30, List.forall_mem_cons.mpr ⟨aI31, List.forall_mem_cons.mpr ⟨aI32, List.forall_mem_cons.mpr ⟨aI33, List.forall_mem_cons.mpr ⟨aI34, List.forall_mem_cons.mpr ⟨aI35, List.forall_mem_cons.mpr ⟨aI36, List.forall_mem_cons.mpr ⟨aI37, List.forall_mem_cons.mpr ⟨aI38, List.forall_mem_cons.mpr ⟨aI39, fun _ h => absurd h List.not_mem_nil⟩⟩⟩⟩⟩⟩⟩⟩⟩⟩⟩⟩⟩⟩⟩⟩⟩⟩⟩⟩⟩⟩⟩⟩⟩⟩⟩⟩⟩⟩⟩⟩⟩⟩⟩⟩⟩⟩⟩⟩
set_option maxRecDepth 100000 in
theorem aMm1 : aML1.all (fun q => (aMt q.1).1.all aIm) = true := by decide +kernel
set_option maxRecDepth 100000 in
theorem aMi1 : ∀ q ∈ aML1, (aMt q.1).1.all (aIc q.1) = true := List.forall_mem_cons.mpr ⟨aI40, List.forall_mem_cons.mpr ⟨aI41, List.forall_mem_cons.mpr ⟨aI42, List.forall_mem_cons.mpr ⟨aI43, List.forall_mem_cons.mpr ⟨aI44, List.forall_mem_cons.mpr ⟨aI45, List.forall_mem_cons.mpr ⟨aI46, List.forall_mem_cons.mpr ⟨aI47, List.forall_mem_cons.mpr ⟨aI48, List.forall_mem_cons.mpr ⟨aI49, List.forall_mem_cons.mpr ⟨aI50, List.forall_mem_cons.mpr ⟨aI51, List.forall_mem_cons.mpr ⟨aI52, List.forall_mem_cons.mpr ⟨aI53, List.forall_mem_cons.mpr ⟨aI54, List.forall_mem_cons.mpr ⟨aI55, List.forall_mem_cons.mpr ⟨aI56, List.forall_mem_cons.mpr ⟨aI57, List.forall_mem_cons.mpr ⟨aI58, List.forall_mem_cons.mpr ⟨aI59, List.forall_mem_cons.mpr ⟨aI60, List.forall_mem_cons.mpr ⟨aI61, List.forall_mem_cons.mpr ⟨aI62, List.forall_mem_cons.mpr ⟨aI63, List.forall_mem_cons.mpr ⟨aI64, List.forall_mem_cons.mpr ⟨aI65, List.forall_mem_cons.mpr ⟨aI66, List.forall_mem_cons.mpr ⟨aI67, List.forall_mem_cons.mpr ⟨aI68, List.forall_mem_cons.mpr ⟨aI69, List.forall_mem_cons.mpr ⟨aI70, List.forall_mem_cons.mpr ⟨aI71, List.forall_mem_cons.mpr ⟨aI72, List.forall_mem_cons.mpr ⟨aI73, List.forall_mem_cons.mpr ⟨aI74, List.forall_mem_cons.mpr ⟨aI75, List.forall_mem_cons.mpr ⟨aI76, List.forall_mem_cons.mpr ⟨aI77, List.forall_mem_cons.mpr ⟨aI78, List.forall_mem_cons.mpr ⟨aI79, fun _ h => absurd h List.not_mem_nil⟩⟩⟩⟩⟩⟩⟩⟩⟩⟩⟩⟩⟩⟩⟩⟩⟩⟩⟩⟩⟩⟩⟩⟩⟩⟩⟩⟩⟩⟩⟩⟩⟩⟩⟩⟩⟩⟩⟩⟩
set_option maxRecDepth 100000 in
theorem aMm2 : aML2.all (fun q => (aMt q.1).1.all aIm) = true := by decide +kernel
set_option maxRecDepth 100000 in
theorem aMi2 : ∀ q ∈ aML2, (aMt q.1).1.all (aIc q.1) = true := List.forall_mem_cons.mpr ⟨aI80, List.forall_mem_cons.mpr ⟨aI81, List.forall_mem_cons.mpr ⟨aI82, List.forall_mem_cons.mpr ⟨aI83, List.forall_mem_cons.mpr ⟨aI84, List.forall_mem_cons.mpr ⟨aI85, List.forall_mem_cons.mpr ⟨aI86, List.forall_mem_cons.mpr ⟨aI87, List.forall_mem_cons.mpr ⟨aI88, List.forall_mem_cons.mpr ⟨aI89, List.forall_mem_cons.mpr ⟨aI90, List.forall_mem_cons.mpr ⟨aI91, List.forall_mem_cons.mpr ⟨aI92, List.forall_mem_cons.mpr ⟨aI93, List.forall_mem_cons.mpr ⟨aI94, List.forall_mem_cons.mpr ⟨aI95, List.forall_mem_cons.mpr ⟨aI96, List.forall_mem_cons.mpr ⟨aI97, List.forall_mem_cons.mpr ⟨aI98, List.forall_mem_cons.mpr ⟨aI99, List.forall_mem_cons.mpr ⟨aI100, List.forall_mem_cons.mpr ⟨aI101, List.forall_mem_cons.mpr ⟨aI102, List.forall_mem_cons.mpr ⟨aI103, List.forall_mem_cons.mpr ⟨aI104, List.forall_mem_cons.mpr ⟨aI105, List.forall_mem_cons.mpr ⟨aI106, List.forall_mem_cons.mpr ⟨aI107, List.forall_mem_cons.mpr ⟨aI108, List.forall_mem_cons.mpr ⟨aI109, List.forall_mem_cons.mpr ⟨aI110, List.forall_mem_cons.mpr ⟨aI111, List.forall_mem_cons.mpr ⟨aI112, List.forall_mem_cons.mpr ⟨aI113, List.forall_mem_cons.mpr ⟨aI114, List.forall_mem_cons.mpr ⟨aI115, List.forall_mem_cons.mpr ⟨aI116, List.forall_mem_cons.mpr ⟨aI117, List.forall_mem_cons.mpr ⟨aI118, List.forall_mem_cons.mpr ⟨aI119, fun _ h => absurd h List.not_mem_nil⟩⟩⟩⟩⟩⟩⟩⟩⟩⟩⟩⟩⟩⟩⟩⟩⟩⟩⟩⟩⟩⟩⟩⟩⟩⟩⟩⟩⟩⟩⟩⟩⟩⟩⟩⟩⟩⟩⟩⟩
set_option maxRecDepth 100000 in
theorem aMm3 : aML3.all (fun q => (aMt q.1).1.all aIm) = true := by decide +kernel
set_option maxRecDepth 100000 in
theorem aMi3 : ∀ q ∈ aML3, (aMt q.1).1.all (aIc q.1) = true := List.forall_mem_cons.mpr ⟨aI120, List.forall_mem_cons.mpr ⟨aI121, List.forall_mem_cons.mpr ⟨aI122, List.forall_mem_cons.mpr ⟨aI123, List.forall_mem_cons.mpr ⟨aI124, List.forall_mem_cons.mpr ⟨aI125, List.forall_mem_cons.mpr ⟨aI126, List.forall_mem_cons.mpr ⟨aI127, List.forall_mem_cons.mpr ⟨aI128, List.forall_mem_cons.mpr ⟨aI129, List.forall_mem_cons.mpr ⟨aI130, List.forall_mem_cons.mpr ⟨aI131, List.forall_mem_cons.mpr ⟨aI132, List.forall_mem_cons.mpr ⟨aI133, List.forall_mem_cons.mpr ⟨aI134, List.forall_mem_cons.mpr ⟨aI135, List.forall_mem_cons.mpr ⟨aI136, List.forall_mem_cons.mpr ⟨aI137, List.forall_mem_cons.mpr ⟨aI138, List.forall_mem_cons.mpr ⟨aI139, List.forall_mem_cons.mpr ⟨aI140, List.forall_mem_cons.mpr ⟨aI141, List.forall_mem_cons.mpr ⟨aI142, List.forall_mem_cons.mpr ⟨aI143, List.forall_mem_cons.mpr ⟨aI144, List.forall_mem_cons.mpr ⟨aI145, List.forall_mem_cons.mpr ⟨aI146, List.forall_mem_cons.mpr ⟨aI147, List.forall_mem_cons.mpr ⟨aI148, List.forall_mem_cons.mpr ⟨aI149, List.forall_mem_cons.mpr ⟨aI150, List.forall_mem_cons.mpr ⟨aI151, List.forall_mem_cons.mpr ⟨aI152, List.forall_mem_cons.mpr ⟨aI153, List.forall_mem_cons.mpr ⟨aI154, List.forall_mem_cons.mpr ⟨aI155, List.forall_mem_cons.mpr ⟨aI156, List.forall_mem_cons.mpr ⟨aI157, List.forall_mem_cons.mpr ⟨aI158, List.forall_mem_cons.mpr ⟨aI159, fun _ h => absurd h List.not_mem_nil⟩⟩⟩⟩⟩⟩⟩⟩⟩⟩⟩⟩⟩⟩⟩⟩⟩⟩⟩⟩⟩⟩⟩⟩⟩⟩⟩⟩⟩⟩⟩⟩⟩⟩⟩⟩⟩⟩⟩⟩
set_option maxRecDepth 100000 in
theorem aMm4 : aML4.all (fun q => (aMt q.1).1.all aIm) = true := by decide +kernel
set_option maxRecDepth 100000 in
theorem aMi4 : ∀ q ∈ aML4, (aMt q.1).1.all (aIc q.1) = true := List.forall_mem_cons.mpr ⟨aI160, List.forall_mem_cons.mpr ⟨aI161, List.forall_mem_cons.mpr ⟨aI162, List.forall_mem_cons.mpr ⟨aI163, List.forall_mem_cons.mpr ⟨aI164, List.forall_mem_cons.mpr ⟨aI165, List.forall_mem_cons.mpr ⟨aI166, List.forall_mem_cons.mpr ⟨aI167, List.forall_mem_cons.mpr ⟨aI168, List.forall_mem_cons.mpr ⟨aI169, List.forall_mem_cons.mpr ⟨aI170, List.forall_mem_cons.mpr ⟨aI171, List.forall_mem_cons.mpr ⟨aI172, List.forall_mem_cons.mpr ⟨aI173, List.forall_mem_cons.mpr ⟨aI174, List.forall_mem_cons.mpr ⟨aI175, List.forall_mem_cons.mpr ⟨aI176, List.forall_mem_cons.mpr ⟨aI177, List.forall_mem_cons.mpr ⟨aI178, List.forall_mem_cons.mpr ⟨aI179, List.forall_mem_cons.mpr ⟨aI180, List.forall_mem_cons.mpr ⟨aI181, List.forall_mem_cons.mpr ⟨aI182, List.forall_mem_cons.mpr ⟨aI183, List.forall_mem_cons.mpr ⟨aI184, List.forall_mem_cons.mpr ⟨aI185, List.forall_mem_cons.mpr ⟨aI186, List.forall_mem_cons.mpr ⟨aI187, List.forall_mem_cons.mpr ⟨aI188, List.forall_mem_cons.mpr ⟨aI189, List.forall_mem_cons.mpr ⟨aI190, List.forall_mem_cons.mpr ⟨aI191, List.forall_mem_cons.mpr ⟨aI192, List.forall_mem_cons.mpr ⟨aI193, List.forall_mem_cons.mpr ⟨aI194, List.forall_mem_cons.mpr ⟨aI195, List.forall_mem_cons.mpr ⟨aI196, List.forall_mem_cons.mpr ⟨aI197, List.forall_mem_cons.mpr ⟨aI198, List.forall_mem_cons.mpr ⟨aI199, fun _ h => absurd h List.not_mem_nil⟩⟩⟩⟩⟩⟩⟩⟩⟩⟩⟩⟩⟩⟩⟩⟩⟩⟩⟩⟩⟩⟩⟩⟩⟩⟩⟩⟩⟩⟩⟩⟩⟩⟩⟩⟩⟩⟩⟩⟩
set_option maxRecDepth 100000 in
theorem aMm5 : aML5.all (fun q => (aMt q.1).1.all aIm) = true := by decide +kernel
set_option maxRecDepth 100000 in
theorem aMi5 : ∀ q ∈ aML5, (aMt q.1).1.all (aIc q.1) = true := List.forall_mem_cons.mpr ⟨aI200, List.forall_mem_cons.mpr ⟨aI201, List.forall_mem_cons.mpr ⟨aI202, List.forall_mem_cons.mpr ⟨aI203, List.forall_mem_cons.mpr ⟨aI204, List.forall_mem_cons.mpr ⟨aI205, List.forall_mem_cons.mpr ⟨aI206, List.forall_mem_cons.mpr ⟨aI207, List.forall_mem_cons.mpr ⟨aI208, List.forall_mem_cons.mpr ⟨aI209, List.forall_mem_cons.mpr ⟨aI210, List.forall_mem_cons.mpr ⟨aI211, List.forall_mem_cons.mpr ⟨aI212, List.forall_mem_cons.mpr ⟨aI213, List.forall_mem_cons.mpr ⟨aI214, List.forall_mem_cons.mpr ⟨aI215, List.forall_mem_cons.mpr ⟨aI216, List.forall_mem_cons.mpr ⟨aI217, List.forall_mem_cons.mpr ⟨aI218, List.forall_mem_cons.mpr ⟨aI219, List.forall_mem_cons.mpr ⟨aI220, List.forall_mem_cons.mpr ⟨aI221, List.forall_mem_cons.mpr ⟨aI222, List.forall_mem_cons.mpr ⟨aI223, List.forall_mem_cons.mpr ⟨aI224, List.forall_mem_cons.mpr ⟨aI225, List.forall_mem_cons.mpr ⟨aI226, List.forall_mem_cons.mpr ⟨aI227, List.forall_mem_cons.mpr ⟨aI228, List.forall_mem_cons.mpr ⟨aI229, List.forall_mem_cons.mpr ⟨aI230, List.forall_mem_cons.mpr ⟨aI231, List.forall_mem_cons.mpr ⟨aI232, List.forall_mem_cons.mpr ⟨aI233, List.forall_mem_cons.mpr ⟨aI234, List.forall_mem_cons.mpr ⟨aI235, List.forall_mem_cons.mpr ⟨aI236, List.forall_mem_cons.mpr ⟨aI237, List.forall_mem_cons.mpr ⟨aI238, List.forall_mem_cons.mpr ⟨aI239, fun _ h => absurd h List.not_mem_nil⟩⟩⟩⟩⟩⟩⟩⟩⟩⟩⟩⟩⟩⟩⟩⟩⟩⟩⟩⟩⟩⟩⟩⟩⟩⟩⟩⟩⟩⟩⟩⟩⟩⟩⟩⟩⟩⟩⟩⟩
set_option maxRecDepth 100000 in
theorem aMm6 : aML6.all (fun q => (aMt q.1).1.all aIm) = true := by decide +kernel
set_option maxRecDepth 100000 in
theorem aMi6 : ∀ q ∈ aML6, (aMt q.1).1.all (aIc q.1) = true := List.forall_mem_cons.mpr ⟨aI240, List.forall_mem_cons.mpr ⟨aI241, List.forall_mem_cons.mpr ⟨aI242, List.forall_mem_cons.mpr ⟨aI243, List.forall_mem_cons.mpr ⟨aI244, List.forall_mem_cons.mpr ⟨aI245, List.forall_mem_cons.mpr ⟨aI246, List.forall_mem_cons.mpr ⟨aI247, List.forall_mem_cons.mpr ⟨aI248, List.forall_mem_cons.mpr ⟨aI249, List.forall_mem_cons.mpr ⟨aI250, List.forall_mem_cons.mpr ⟨aI251, List.forall_mem_cons.mpr ⟨aI252, List.forall_mem_cons.mpr ⟨aI253, List.forall_mem_cons.mpr ⟨aI254, List.forall_mem_cons.mpr ⟨aI255, List.forall_mem_cons.mpr ⟨aI256, List.forall_mem_cons.mpr ⟨aI257, List.forall_mem_cons.mpr ⟨aI258, List.forall_mem_cons.mpr ⟨aI259, List.forall_mem_cons.mpr ⟨aI260, List.forall_mem_cons.mpr ⟨aI261, List.forall_mem_cons.mpr ⟨aI262, List.forall_mem_cons.mpr ⟨aI263, List.forall_mem_cons.mpr ⟨aI264, List.forall_mem_cons.mpr ⟨aI265, List.forall_mem_cons.mpr ⟨aI266, List.forall_mem_cons.mpr ⟨aI267, List.forall_mem_cons.mpr ⟨aI268, List.forall_mem_cons.mpr ⟨aI269, List.forall_mem_cons.mpr ⟨aI270, List.forall_mem_cons.mpr ⟨aI271, List.forall_mem_cons.mpr ⟨aI272, List.forall_mem_cons.mpr ⟨aI273, List.forall_mem_cons.mpr ⟨aI274, List.forall_mem_cons.mpr ⟨aI275, List.forall_mem_cons.mpr ⟨aI276, List.forall_mem_cons.mpr ⟨aI277, List.forall_mem_cons.mpr ⟨aI278, List.forall_mem_cons.mpr ⟨aI279, fun _ h => absurd h List.not_mem_nil⟩⟩⟩⟩⟩⟩⟩⟩⟩⟩⟩⟩⟩⟩⟩⟩⟩⟩⟩⟩⟩⟩⟩⟩⟩⟩⟩⟩⟩⟩⟩⟩⟩⟩⟩⟩⟩⟩⟩⟩
set_option maxRecDepth 100000 in
theorem aMm7 : aML7.all (fun q => (aMt q.1).1.all aIm) = true := by decide +kernel
set_option maxRecDepth 100000 in
theorem aMi7 : ∀ q ∈ aML7, (aMt q.1).1.all (aIc q.1) = true := List.forall_mem_cons.mpr ⟨aI280, List.forall_mem_cons.mpr ⟨aI281, List.forall_mem_cons.mpr ⟨aI282, List.forall_mem_cons.mpr ⟨aI283, List.forall_mem_cons.mpr ⟨aI284, List.forall_mem_cons.mpr ⟨aI285, List.forall_mem_cons.mpr ⟨aI286, List.forall_mem_cons.mpr ⟨aI287, List.forall_mem_cons.mpr ⟨aI288, List.forall_mem_cons.mpr ⟨aI289, List.forall_mem_cons.mpr ⟨aI290, List.forall_mem_cons.mpr ⟨aI291, List.forall_mem_cons.mpr ⟨aI292, List.forall_mem_cons.mpr ⟨aI293, List.forall_mem_cons.mpr ⟨aI294, List.forall_mem_cons.mpr ⟨aI295, fun _ h => absurd h List.not_mem_nil⟩⟩⟩⟩⟩⟩⟩⟩⟩⟩⟩⟩⟩⟩⟩⟩
theorem aM_ic : ∀ q ∈ aML, (aMt q.1).1.all (aIc q.1) = true ∧ (aMt q.1).1.all aIm = true := by
  intro q h
  unfold aML at h
  simp only [List.mem_append] at h
  rcases h with h | h | h | h | h | h | h | h
  · exact ⟨aMi0 q h, List.all_eq_true.mp aMm0 q h⟩
  · exact ⟨aMi1 q h, List.all_eq_true.mp aMm1 q h⟩
  · exact ⟨aMi2 q h, List.all_eq_true.mp aMm2 q h⟩
  · exact ⟨aMi3 q h, List.all_eq_true.mp aMm3 q h⟩
  · exact ⟨aMi4 q h, List.all_eq_true.mp aMm4 q h⟩
  · exact ⟨aMi5 q h, List.all_eq_true.mp aMm5 q h⟩
  · exact ⟨aMi6 q h, List.all_eq_true.mp aMm6 q h⟩
  · exact ⟨aMi7 q h, List.all_eq_true.mp aMm7 q h⟩
theorem aM_lt : ∀ q ∈ aML, q.1 < 303 := by decide +kernel
theorem aFind_mem {pc : Nat} {x : Instr × Nat × Nat × Nat × Nat × Int} : ∀ {l : List aN}, aFind l pc = some x → (pc, x) ∈ l
  | [], h => by cases h
  | (q, y) :: l, h => by
    unfold aFind at h
    split at h
    · rename_i hq
      cases h
      subst hq
      exact List.mem_cons_self
    · exact List.mem_cons_of_mem _ (aFind_mem h)
theorem aInstr {k g pc : Nat} {i : Instr} {len t a b : Nat} {z : Int} (hp : aPl k g = true) (hf : aFind (aMt k).1 pc = some (i, len, t, a, b, z)) : decode (aNm k).2.1 pc = .ok (i, len) ∧ aIl k pc i len t a b z = true ∧ aIm (pc, i, len, t, a, b, z) = true := by
  obtain ⟨p1, p2, p3, p4, hq⟩ := aPl_get hp
  obtain ⟨h1, h2⟩ := aM_ic _ hq
  have hm := aFind_mem hf
  have h3 := List.all_eq_true.mp h1 _ hm
  unfold aIc at h3
  rw [Bool.and_eq_true, decide_eq_true_eq] at h3
  exact ⟨h3.1, h3.2, List.all_eq_true.mp h2 _ hm⟩
