/-! NAMES: classes with their fields, methods by key; the words of the tables that stay. Written by wip/gen/names.py. -/
def lw_good : List Cond := lw_tbl.filter goodWord
theorem lw_gin {w : Cond} (i : Nat) (h : lw_tbl[i]? = some w) (g : goodWord w = true) : w ∈ lw_good := List.mem_filter.mpr ⟨List.mem_of_getElem? h, g⟩
def ct_0 : u_T := fun k => match k with
  | 0 => ("ShadeCarpets$Kind", "number", "I", true)
  | 1 => ("ShadeCarpets$Kind", "name", "Ljava/lang/String;", true)
  | _ => ("ShadeCarpets$Kind", "above", "LShadeCarpets$Kind;", true)
def cy_0 : Nat → FieldType := fun k => match k with
  | 0 => .int
  | 1 => .object "java/lang/String"
  | _ => .object "ShadeCarpets$Kind"
theorem cn_0 : ∀ a, a < 3 → ∀ b, b < 3 → a ≠ b → (ct_0 a).2.1 ≠ (ct_0 b).2.1 := by decide +kernel
theorem cq_0 : ∀ k, k < 3 → parseFieldDescriptor (ct_0 k).2.2.1 = some (cy_0 k) := by decide +kernel
theorem cw_0 : ∀ w ∈ u_ws "ShadeCarpets$Bride" ct_0 3, w ∈ lw_good := by
  have h : u_ws "ShadeCarpets$Bride" ct_0 3 = ([149, 150, 151] : List Nat).filterMap (fun i => lw_tbl[i]?) := by decide +kernel
  have g : (u_ws "ShadeCarpets$Bride" ct_0 3).all goodWord = true := by decide +kernel
  intro w hw
  have g2 := List.all_eq_true.mp g w hw
  rw [h] at hw
  obtain ⟨i, -, hi⟩ := List.mem_filterMap.mp hw
  exact lw_gin i hi g2
def ct_1 : u_T := fun k => match k with
  | 0 => ("ShadeCarpets$Kind", "number", "I", true)
  | 1 => ("ShadeCarpets$Kind", "name", "Ljava/lang/String;", true)
  | _ => ("ShadeCarpets$Kind", "above", "LShadeCarpets$Kind;", true)
def cy_1 : Nat → FieldType := fun k => match k with
  | 0 => .int
  | 1 => .object "java/lang/String"
  | _ => .object "ShadeCarpets$Kind"
theorem cn_1 : ∀ a, a < 3 → ∀ b, b < 3 → a ≠ b → (ct_1 a).2.1 ≠ (ct_1 b).2.1 := by decide +kernel
theorem cq_1 : ∀ k, k < 3 → parseFieldDescriptor (ct_1 k).2.2.1 = some (cy_1 k) := by decide +kernel
theorem cw_1 : ∀ w ∈ u_ws "ShadeCarpets$Caravan" ct_1 3, w ∈ lw_good := by
  have h : u_ws "ShadeCarpets$Caravan" ct_1 3 = ([138, 139, 140] : List Nat).filterMap (fun i => lw_tbl[i]?) := by decide +kernel
  have g : (u_ws "ShadeCarpets$Caravan" ct_1 3).all goodWord = true := by decide +kernel
  intro w hw
  have g2 := List.all_eq_true.mp g w hw
  rw [h] at hw
  obtain ⟨i, -, hi⟩ := List.mem_filterMap.mp hw
  exact lw_gin i hi g2
def ct_2 : u_T := fun k => match k with
  | 0 => ("ShadeCarpets$Carrier", "kind", "LShadeCarpets$Kind;", false)
  | 1 => ("ShadeCarpets$Carrier", "place", "I", false)
  | 2 => ("ShadeCarpets$Carrier", "shade", "I", false)
  | 3 => ("ShadeCarpets$Carrier", "cover", "I", false)
  | 4 => ("ShadeCarpets$Carrier", "dusk", "I", false)
  | _ => ("ShadeCarpets$Carrier", "cash", "I", false)
def cy_2 : Nat → FieldType := fun k => match k with
  | 0 => .object "ShadeCarpets$Kind"
  | 1 => .int
  | 2 => .int
  | 3 => .int
  | 4 => .int
  | _ => .int
theorem cn_2 : ∀ a, a < 6 → ∀ b, b < 6 → a ≠ b → (ct_2 a).2.1 ≠ (ct_2 b).2.1 := by decide +kernel
theorem cq_2 : ∀ k, k < 6 → parseFieldDescriptor (ct_2 k).2.2.1 = some (cy_2 k) := by decide +kernel
theorem cw_2 : ∀ w ∈ u_ws "ShadeCarpets$Carrier" ct_2 6, w ∈ lw_good := by
  have h : u_ws "ShadeCarpets$Carrier" ct_2 6 = ([206, 208, 210, 212, 214, 216] : List Nat).filterMap (fun i => lw_tbl[i]?) := by decide +kernel
  have g : (u_ws "ShadeCarpets$Carrier" ct_2 6).all goodWord = true := by decide +kernel
  intro w hw
  have g2 := List.all_eq_true.mp g w hw
  rw [h] at hw
  obtain ⟨i, -, hi⟩ := List.mem_filterMap.mp hw
  exact lw_gin i hi g2
def ct_3 : u_T := fun k => match k with
  | 0 => ("ShadeCarpets$Kind", "number", "I", true)
  | 1 => ("ShadeCarpets$Kind", "name", "Ljava/lang/String;", true)
  | _ => ("ShadeCarpets$Kind", "above", "LShadeCarpets$Kind;", true)
def cy_3 : Nat → FieldType := fun k => match k with
  | 0 => .int
  | 1 => .object "java/lang/String"
  | _ => .object "ShadeCarpets$Kind"
theorem cn_3 : ∀ a, a < 3 → ∀ b, b < 3 → a ≠ b → (ct_3 a).2.1 ≠ (ct_3 b).2.1 := by decide +kernel
theorem cq_3 : ∀ k, k < 3 → parseFieldDescriptor (ct_3 k).2.2.1 = some (cy_3 k) := by decide +kernel
theorem cw_3 : ∀ w ∈ u_ws "ShadeCarpets$Dealer" ct_3 3, w ∈ lw_good := by
  have h : u_ws "ShadeCarpets$Dealer" ct_3 3 = ([127, 128, 129] : List Nat).filterMap (fun i => lw_tbl[i]?) := by decide +kernel
  have g : (u_ws "ShadeCarpets$Dealer" ct_3 3).all goodWord = true := by decide +kernel
  intro w hw
  have g2 := List.all_eq_true.mp g w hw
  rw [h] at hw
  obtain ⟨i, -, hi⟩ := List.mem_filterMap.mp hw
  exact lw_gin i hi g2
def ct_4 : u_T := fun k => match k with
  | 0 => ("ShadeCarpets$Kind", "number", "I", true)
  | 1 => ("ShadeCarpets$Kind", "name", "Ljava/lang/String;", true)
  | _ => ("ShadeCarpets$Kind", "above", "LShadeCarpets$Kind;", true)
def cy_4 : Nat → FieldType := fun k => match k with
  | 0 => .int
  | 1 => .object "java/lang/String"
  | _ => .object "ShadeCarpets$Kind"
theorem cn_4 : ∀ a, a < 3 → ∀ b, b < 3 → a ≠ b → (ct_4 a).2.1 ≠ (ct_4 b).2.1 := by decide +kernel
theorem cq_4 : ∀ k, k < 3 → parseFieldDescriptor (ct_4 k).2.2.1 = some (cy_4 k) := by decide +kernel
theorem cw_4 : ∀ w ∈ u_ws "ShadeCarpets$Granny" ct_4 3, w ∈ lw_good := by
  have h : u_ws "ShadeCarpets$Granny" ct_4 3 = ([116, 117, 118] : List Nat).filterMap (fun i => lw_tbl[i]?) := by decide +kernel
  have g : (u_ws "ShadeCarpets$Granny" ct_4 3).all goodWord = true := by decide +kernel
  intro w hw
  have g2 := List.all_eq_true.mp g w hw
  rw [h] at hw
  obtain ⟨i, -, hi⟩ := List.mem_filterMap.mp hw
  exact lw_gin i hi g2
def ct_5 : u_T := fun k => match k with
  | 0 => ("ShadeCarpets$Kind", "number", "I", true)
  | 1 => ("ShadeCarpets$Kind", "name", "Ljava/lang/String;", true)
  | _ => ("ShadeCarpets$Kind", "above", "LShadeCarpets$Kind;", true)
def cy_5 : Nat → FieldType := fun k => match k with
  | 0 => .int
  | 1 => .object "java/lang/String"
  | _ => .object "ShadeCarpets$Kind"
theorem cn_5 : ∀ a, a < 3 → ∀ b, b < 3 → a ≠ b → (ct_5 a).2.1 ≠ (ct_5 b).2.1 := by decide +kernel
theorem cq_5 : ∀ k, k < 3 → parseFieldDescriptor (ct_5 k).2.2.1 = some (cy_5 k) := by decide +kernel
theorem cw_5 : ∀ w ∈ u_ws "ShadeCarpets$Kind" ct_5 3, w ∈ lw_good := by
  have h : u_ws "ShadeCarpets$Kind" ct_5 3 = ([100, 102, 104] : List Nat).filterMap (fun i => lw_tbl[i]?) := by decide +kernel
  have g : (u_ws "ShadeCarpets$Kind" ct_5 3).all goodWord = true := by decide +kernel
  intro w hw
  have g2 := List.all_eq_true.mp g w hw
  rw [h] at hw
  obtain ⟨i, -, hi⟩ := List.mem_filterMap.mp hw
  exact lw_gin i hi g2
def ct_6 : u_T := fun k => match k with
  | 0 => ("ShadeCarpets$Land", "posts", "[I", true)
  | 1 => ("ShadeCarpets$Land", "prices", "[I", true)
  | 2 => ("ShadeCarpets$Land", "carriers", "[LShadeCarpets$Carrier;", true)
  | 3 => ("ShadeCarpets$Land", "count", "I", false)
  | 4 => ("ShadeCarpets$Land", "hour", "I", false)
  | _ => ("ShadeCarpets$Land", "clouds", "I", false)
def cy_6 : Nat → FieldType := fun k => match k with
  | 0 => .array .int
  | 1 => .array .int
  | 2 => .array (.object "ShadeCarpets$Carrier")
  | 3 => .int
  | 4 => .int
  | _ => .int
theorem cn_6 : ∀ a, a < 6 → ∀ b, b < 6 → a ≠ b → (ct_6 a).2.1 ≠ (ct_6 b).2.1 := by decide +kernel
theorem cq_6 : ∀ k, k < 6 → parseFieldDescriptor (ct_6 k).2.2.1 = some (cy_6 k) := by decide +kernel
theorem cw_6 : ∀ w ∈ u_ws "ShadeCarpets$Land" ct_6 6, w ∈ lw_good := by
  have h : u_ws "ShadeCarpets$Land" ct_6 6 = ([238, 240, 242, 244, 246, 248] : List Nat).filterMap (fun i => lw_tbl[i]?) := by decide +kernel
  have g : (u_ws "ShadeCarpets$Land" ct_6 6).all goodWord = true := by decide +kernel
  intro w hw
  have g2 := List.all_eq_true.mp g w hw
  rw [h] at hw
  obtain ⟨i, -, hi⟩ := List.mem_filterMap.mp hw
  exact lw_gin i hi g2
def ct_7 : u_T := fun k => match k with
  | 0 => ("ShadeCarpets$Kind", "number", "I", true)
  | 1 => ("ShadeCarpets$Kind", "name", "Ljava/lang/String;", true)
  | _ => ("ShadeCarpets$Kind", "above", "LShadeCarpets$Kind;", true)
def cy_7 : Nat → FieldType := fun k => match k with
  | 0 => .int
  | 1 => .object "java/lang/String"
  | _ => .object "ShadeCarpets$Kind"
theorem cn_7 : ∀ a, a < 3 → ∀ b, b < 3 → a ≠ b → (ct_7 a).2.1 ≠ (ct_7 b).2.1 := by decide +kernel
theorem cq_7 : ∀ k, k < 3 → parseFieldDescriptor (ct_7 k).2.2.1 = some (cy_7 k) := by decide +kernel
theorem cw_7 : ∀ w ∈ u_ws "ShadeCarpets$Priest" ct_7 3, w ∈ lw_good := by
  have h : u_ws "ShadeCarpets$Priest" ct_7 3 = ([160, 161, 162] : List Nat).filterMap (fun i => lw_tbl[i]?) := by decide +kernel
  have g : (u_ws "ShadeCarpets$Priest" ct_7 3).all goodWord = true := by decide +kernel
  intro w hw
  have g2 := List.all_eq_true.mp g w hw
  rw [h] at hw
  obtain ⟨i, -, hi⟩ := List.mem_filterMap.mp hw
  exact lw_gin i hi g2
def ct_8 : u_T := fun k => match k with
  | 0 => ("ShadeCarpets$Sheet", "numbers", "[J", true)
  | 1 => ("ShadeCarpets$Sheet", "bits", "I", false)
  | _ => ("ShadeCarpets$Sheet", "size", "I", false)
def cy_8 : Nat → FieldType := fun k => match k with
  | 0 => .array .long
  | 1 => .int
  | _ => .int
theorem cn_8 : ∀ a, a < 3 → ∀ b, b < 3 → a ≠ b → (ct_8 a).2.1 ≠ (ct_8 b).2.1 := by decide +kernel
theorem cq_8 : ∀ k, k < 3 → parseFieldDescriptor (ct_8 k).2.2.1 = some (cy_8 k) := by decide +kernel
theorem cw_8 : ∀ w ∈ u_ws "ShadeCarpets$Sheet" ct_8 3, w ∈ lw_good := by
  have h : u_ws "ShadeCarpets$Sheet" ct_8 3 = ([324, 326, 328] : List Nat).filterMap (fun i => lw_tbl[i]?) := by decide +kernel
  have g : (u_ws "ShadeCarpets$Sheet" ct_8 3).all goodWord = true := by decide +kernel
  intro w hw
  have g2 := List.all_eq_true.mp g w hw
  rw [h] at hw
  obtain ⟨i, -, hi⟩ := List.mem_filterMap.mp hw
  exact lw_gin i hi g2
def ct_9 : u_T := fun k => match k with
  | 0 => ("ShadeCarpets$Tape", "bytes", "[I", true)
  | 1 => ("ShadeCarpets$Tape", "length", "I", false)
  | 2 => ("ShadeCarpets$Tape", "token", "I", false)
  | 3 => ("ShadeCarpets$Tape", "start", "I", false)
  | 4 => ("ShadeCarpets$Tape", "end", "I", false)
  | _ => ("ShadeCarpets$Tape", "number", "I", false)
def cy_9 : Nat → FieldType := fun k => match k with
  | 0 => .array .int
  | 1 => .int
  | 2 => .int
  | 3 => .int
  | 4 => .int
  | _ => .int
theorem cn_9 : ∀ a, a < 6 → ∀ b, b < 6 → a ≠ b → (ct_9 a).2.1 ≠ (ct_9 b).2.1 := by decide +kernel
theorem cq_9 : ∀ k, k < 6 → parseFieldDescriptor (ct_9 k).2.2.1 = some (cy_9 k) := by decide +kernel
theorem cw_9 : ∀ w ∈ u_ws "ShadeCarpets$Tape" ct_9 6, w ∈ lw_good := by
  have h : u_ws "ShadeCarpets$Tape" ct_9 6 = ([300, 302, 304, 306, 308, 310] : List Nat).filterMap (fun i => lw_tbl[i]?) := by decide +kernel
  have g : (u_ws "ShadeCarpets$Tape" ct_9 6).all goodWord = true := by decide +kernel
  intro w hw
  have g2 := List.all_eq_true.mp g w hw
  rw [h] at hw
  obtain ⟨i, -, hi⟩ := List.mem_filterMap.mp hw
  exact lw_gin i hi g2
def ct_10 : u_T := fun k => match k with
  | 0 => ("ShadeCarpets$Way", "walker", "LShadeCarpets$Carrier;", true)
  | 1 => ("ShadeCarpets$Way", "guarded", "[I", true)
  | 2 => ("ShadeCarpets$Way", "spared", "I", false)
  | 3 => ("ShadeCarpets$Way", "hour", "I", false)
  | 4 => ("ShadeCarpets$Way", "reached", "I", false)
  | 5 => ("ShadeCarpets$Way", "bestWorth", "I", false)
  | _ => ("ShadeCarpets$Way", "bestSpot", "I", false)
def cy_10 : Nat → FieldType := fun k => match k with
  | 0 => .object "ShadeCarpets$Carrier"
  | 1 => .array .int
  | 2 => .int
  | 3 => .int
  | 4 => .int
  | 5 => .int
  | _ => .int
theorem cn_10 : ∀ a, a < 7 → ∀ b, b < 7 → a ≠ b → (ct_10 a).2.1 ≠ (ct_10 b).2.1 := by decide +kernel
theorem cq_10 : ∀ k, k < 7 → parseFieldDescriptor (ct_10 k).2.2.1 = some (cy_10 k) := by decide +kernel
theorem cw_10 : ∀ w ∈ u_ws "ShadeCarpets$Way" ct_10 7, w ∈ lw_good := by
  have h : u_ws "ShadeCarpets$Way" ct_10 7 = ([270, 272, 274, 276, 278, 280, 282] : List Nat).filterMap (fun i => lw_tbl[i]?) := by decide +kernel
  have g : (u_ws "ShadeCarpets$Way" ct_10 7).all goodWord = true := by decide +kernel
  intro w hw
  have g2 := List.all_eq_true.mp g w hw
  rw [h] at hw
  obtain ⟨i, -, hi⟩ := List.mem_filterMap.mp hw
  exact lw_gin i hi g2
def ct_11 : u_T := fun k => match k with
  | 0 => ("ShadeCarpets", "kinds", "[LShadeCarpets$Kind;", true)
  | 1 => ("ShadeCarpets", "state", "LShadeCarpets$Land;", true)
  | 2 => ("ShadeCarpets", "kept", "LShadeCarpets$Land;", true)
  | 3 => ("ShadeCarpets", "draft", "LShadeCarpets$Land;", true)
  | 4 => ("ShadeCarpets", "somethingKept", "Z", false)
  | 5 => ("ShadeCarpets", "way", "LShadeCarpets$Way;", true)
  | 6 => ("ShadeCarpets", "ghost", "LShadeCarpets$Carrier;", true)
  | 7 => ("ShadeCarpets", "tape", "LShadeCarpets$Tape;", true)
  | 8 => ("ShadeCarpets", "sheets", "[LShadeCarpets$Sheet;", true)
  | _ => ("ShadeCarpets", "findings", "[I", true)
def cy_11 : Nat → FieldType := fun k => match k with
  | 0 => .array (.object "ShadeCarpets$Kind")
  | 1 => .object "ShadeCarpets$Land"
  | 2 => .object "ShadeCarpets$Land"
  | 3 => .object "ShadeCarpets$Land"
  | 4 => .boolean
  | 5 => .object "ShadeCarpets$Way"
  | 6 => .object "ShadeCarpets$Carrier"
  | 7 => .object "ShadeCarpets$Tape"
  | 8 => .array (.object "ShadeCarpets$Sheet")
  | _ => .array .int
theorem cn_11 : ∀ a, a < 10 → ∀ b, b < 10 → a ≠ b → (ct_11 a).2.1 ≠ (ct_11 b).2.1 := by decide +kernel
theorem cq_11 : ∀ k, k < 10 → parseFieldDescriptor (ct_11 k).2.2.1 = some (cy_11 k) := by decide +kernel
theorem cw_11 : ∀ w ∈ u_ws "ShadeCarpets" ct_11 10, w ∈ lw_good := by
  have h : u_ws "ShadeCarpets" ct_11 10 = ([342, 344, 346, 348, 350, 352, 354, 356, 358, 360] : List Nat).filterMap (fun i => lw_tbl[i]?) := by decide +kernel
  have g : (u_ws "ShadeCarpets" ct_11 10).all goodWord = true := by decide +kernel
  intro w hw
  have g2 := List.all_eq_true.mp g w hw
  rw [h] at hw
  obtain ⟨i, -, hi⟩ := List.mem_filterMap.mp hw
  exact lw_gin i hi g2
def ct_12 : u_T := fun k => match k with
  | 0 => ("ShadeCarpetsModel", "s", "[I", true)
  | 1 => ("ShadeCarpetsModel", "keptS", "[I", true)
  | 2 => ("ShadeCarpetsModel", "other", "[I", true)
  | 3 => ("ShadeCarpetsModel", "aside", "[I", true)
  | 4 => ("ShadeCarpetsModel", "statuses", "[I", true)
  | 5 => ("ShadeCarpetsModel", "isKept", "Z", false)
  | 6 => ("ShadeCarpetsModel", "foundThen", "I", false)
  | 7 => ("ShadeCarpetsModel", "free", "I", false)
  | 8 => ("ShadeCarpetsModel", "shade", "I", false)
  | 9 => ("ShadeCarpetsModel", "hour", "I", false)
  | 10 => ("ShadeCarpetsModel", "bestValue", "I", false)
  | 11 => ("ShadeCarpetsModel", "bestWhere", "I", false)
  | 12 => ("ShadeCarpetsModel", "tape", "[I", true)
  | 13 => ("ShadeCarpetsModel", "taped", "I", false)
  | 14 => ("ShadeCarpetsModel", "from", "I", false)
  | 15 => ("ShadeCarpetsModel", "to", "I", false)
  | 16 => ("ShadeCarpetsModel", "value", "I", false)
  | 17 => ("ShadeCarpetsModel", "isWrong", "Z", false)
  | 18 => ("ShadeCarpetsModel", "bitsOf", "[I", true)
  | 19 => ("ShadeCarpetsModel", "sizeOf", "[I", true)
  | 20 => ("ShadeCarpetsModel", "numbers", "[J", true)
  | _ => ("ShadeCarpetsModel", "moved", "[J", true)
def cy_12 : Nat → FieldType := fun k => match k with
  | 0 => .array .int
  | 1 => .array .int
  | 2 => .array .int
  | 3 => .array .int
  | 4 => .array .int
  | 5 => .boolean
  | 6 => .int
  | 7 => .int
  | 8 => .int
  | 9 => .int
  | 10 => .int
  | 11 => .int
  | 12 => .array .int
  | 13 => .int
  | 14 => .int
  | 15 => .int
  | 16 => .int
  | 17 => .boolean
  | 18 => .array .int
  | 19 => .array .int
  | 20 => .array .long
  | _ => .array .long
theorem cn_12 : ∀ a, a < 22 → ∀ b, b < 22 → a ≠ b → (ct_12 a).2.1 ≠ (ct_12 b).2.1 := by decide +kernel
theorem cq_12 : ∀ k, k < 22 → parseFieldDescriptor (ct_12 k).2.2.1 = some (cy_12 k) := by decide +kernel
theorem cw_12 : ∀ w ∈ u_ws "ShadeCarpetsModel" ct_12 22, w ∈ lw_good := by
  have h : u_ws "ShadeCarpetsModel" ct_12 22 = ([926, 928, 930, 932, 934, 936, 938, 940, 942, 944, 946, 948, 950, 952, 954, 956, 958, 960, 962, 964, 966, 968] : List Nat).filterMap (fun i => lw_tbl[i]?) := by decide +kernel
  have g : (u_ws "ShadeCarpetsModel" ct_12 22).all goodWord = true := by decide +kernel
  intro w hw
  have g2 := List.all_eq_true.mp g w hw
  rw [h] at hw
  obtain ⟨i, -, hi⟩ := List.mem_filterMap.mp hw
  exact lw_gin i hi g2
def sx_cls : List vw_C := [("ShadeCarpets$Bride", ct_0, 3), ("ShadeCarpets$Caravan", ct_1, 3), ("ShadeCarpets$Carrier", ct_2, 6), ("ShadeCarpets$Dealer", ct_3, 3), ("ShadeCarpets$Granny", ct_4, 3), ("ShadeCarpets$Kind", ct_5, 3), ("ShadeCarpets$Land", ct_6, 6), ("ShadeCarpets$Priest", ct_7, 3), ("ShadeCarpets$Sheet", ct_8, 3), ("ShadeCarpets$Tape", ct_9, 6), ("ShadeCarpets$Way", ct_10, 7), ("ShadeCarpets", ct_11, 10), ("ShadeCarpetsModel", ct_12, 22)]
abbrev sx_MI : Type := MethodName × ByteArray × Nat × Option FieldType
def ym_0 : MethodName := ⟨"ShadeCarpets$Bride", "<init>", "(ILjava/lang/String;LShadeCarpets$Kind;)V"⟩
def ym_1 : MethodName := ⟨"ShadeCarpets$Bride", "coolness", "(LShadeCarpets$Carrier;I)I"⟩
def ym_2 : MethodName := ⟨"ShadeCarpets$Bride", "fading", "(LShadeCarpets$Carrier;I)I"⟩
def ym_3 : MethodName := ⟨"ShadeCarpets$Bride", "worth", "(LShadeCarpets$Carrier;I)I"⟩
def ym_4 : MethodName := ⟨"ShadeCarpets$Caravan", "<init>", "(ILjava/lang/String;LShadeCarpets$Kind;)V"⟩
def ym_5 : MethodName := ⟨"ShadeCarpets$Caravan", "coolness", "(LShadeCarpets$Carrier;I)I"⟩
def ym_6 : MethodName := ⟨"ShadeCarpets$Caravan", "fading", "(LShadeCarpets$Carrier;I)I"⟩
def ym_7 : MethodName := ⟨"ShadeCarpets$Caravan", "worth", "(LShadeCarpets$Carrier;I)I"⟩
def ym_8 : MethodName := ⟨"ShadeCarpets$Carrier", "<init>", "(LShadeCarpets$Kind;)V"⟩
def ym_9 : MethodName := ⟨"ShadeCarpets$Carrier", "become", "(LShadeCarpets$Carrier;)V"⟩
def ym_10 : MethodName := ⟨"ShadeCarpets$Carrier", "start", "(LShadeCarpets$Kind;I)V"⟩
def ym_11 : MethodName := ⟨"ShadeCarpets$Carrier", "fadeIn", "(I)V"⟩
def ym_12 : MethodName := ⟨"ShadeCarpets$Carrier", "leastPostThatFinds", "(I)I"⟩
def ym_13 : MethodName := ⟨"ShadeCarpets$Dealer", "<init>", "(ILjava/lang/String;LShadeCarpets$Kind;)V"⟩
def ym_14 : MethodName := ⟨"ShadeCarpets$Dealer", "coolness", "(LShadeCarpets$Carrier;I)I"⟩
def ym_15 : MethodName := ⟨"ShadeCarpets$Dealer", "fading", "(LShadeCarpets$Carrier;I)I"⟩
def ym_16 : MethodName := ⟨"ShadeCarpets$Dealer", "worth", "(LShadeCarpets$Carrier;I)I"⟩
def ym_17 : MethodName := ⟨"ShadeCarpets$Granny", "<init>", "(ILjava/lang/String;LShadeCarpets$Kind;)V"⟩
def ym_18 : MethodName := ⟨"ShadeCarpets$Granny", "coolness", "(LShadeCarpets$Carrier;I)I"⟩
def ym_19 : MethodName := ⟨"ShadeCarpets$Kind", "<init>", "(ILjava/lang/String;LShadeCarpets$Kind;)V"⟩
def ym_20 : MethodName := ⟨"ShadeCarpets$Kind", "isUnder", "(LShadeCarpets$Kind;)Z"⟩
def ym_21 : MethodName := ⟨"ShadeCarpets$Kind", "coolness", "(LShadeCarpets$Carrier;I)I"⟩
def ym_22 : MethodName := ⟨"ShadeCarpets$Kind", "fading", "(LShadeCarpets$Carrier;I)I"⟩
def ym_23 : MethodName := ⟨"ShadeCarpets$Kind", "worth", "(LShadeCarpets$Carrier;I)I"⟩
def ym_24 : MethodName := ⟨"ShadeCarpets$Land", "<init>", "(LShadeCarpets$Kind;)V"⟩
def ym_25 : MethodName := ⟨"ShadeCarpets$Land", "become", "(LShadeCarpets$Land;)V"⟩
def ym_26 : MethodName := ⟨"ShadeCarpets$Land", "isFull", "()Z"⟩
def ym_27 : MethodName := ⟨"ShadeCarpets$Land", "addCarrier", "(LShadeCarpets$Kind;I)I"⟩
def ym_28 : MethodName := ⟨"ShadeCarpets$Land", "finds", "(LShadeCarpets$Carrier;I)Z"⟩
def ym_29 : MethodName := ⟨"ShadeCarpets$Land", "passHour", "(LShadeCarpets$Carrier;I)Z"⟩
def ym_30 : MethodName := ⟨"ShadeCarpets$Land", "letAnHourGo", "()V"⟩
def ym_31 : MethodName := ⟨"ShadeCarpets$Land", "worthWhereItIs", "(LShadeCarpets$Carrier;)I"⟩
def ym_32 : MethodName := ⟨"ShadeCarpets$Land", "carriersAt", "(I)I"⟩
def ym_33 : MethodName := ⟨"ShadeCarpets$Land", "shadeOfAll", "()I"⟩
def ym_34 : MethodName := ⟨"ShadeCarpets$Land", "cashOfAll", "()I"⟩
def ym_35 : MethodName := ⟨"ShadeCarpets$Land", "withShade", "()I"⟩
def ym_36 : MethodName := ⟨"ShadeCarpets$Land", "withPost", "()I"⟩
def ym_37 : MethodName := ⟨"ShadeCarpets$Land", "pricesOfAll", "()I"⟩
def ym_38 : MethodName := ⟨"ShadeCarpets$Priest", "<init>", "(ILjava/lang/String;LShadeCarpets$Kind;)V"⟩
def ym_39 : MethodName := ⟨"ShadeCarpets$Priest", "coolness", "(LShadeCarpets$Carrier;I)I"⟩
def ym_40 : MethodName := ⟨"ShadeCarpets$Priest", "worth", "(LShadeCarpets$Carrier;I)I"⟩
def ym_41 : MethodName := ⟨"ShadeCarpets$Sheet", "<init>", "()V"⟩
def ym_42 : MethodName := ⟨"ShadeCarpets$Sheet", "isMissing", "()Z"⟩
def ym_43 : MethodName := ⟨"ShadeCarpets$Sheet", "layOut", "(II)V"⟩
def ym_44 : MethodName := ⟨"ShadeCarpets$Sheet", "lowestBits", "(J)J"⟩
def ym_45 : MethodName := ⟨"ShadeCarpets$Sheet", "hasRun", "(II)Z"⟩
def ym_46 : MethodName := ⟨"ShadeCarpets$Tape", "<init>", "()V"⟩
def ym_47 : MethodName := ⟨"ShadeCarpets$Tape", "append", "(I)V"⟩
def ym_48 : MethodName := ⟨"ShadeCarpets$Tape", "tellTo", "(LShadeCarpets$Land;[LShadeCarpets$Kind;)I"⟩
def ym_49 : MethodName := ⟨"ShadeCarpets$Tape", "takeItem", "(LShadeCarpets$Land;[LShadeCarpets$Kind;)Z"⟩
def ym_50 : MethodName := ⟨"ShadeCarpets$Tape", "takeCarrier", "(LShadeCarpets$Land;LShadeCarpets$Kind;)Z"⟩
def ym_51 : MethodName := ⟨"ShadeCarpets$Tape", "takeTraits", "(LShadeCarpets$Carrier;)Z"⟩
def ym_52 : MethodName := ⟨"ShadeCarpets$Tape", "takeOfPlace", "([II)Z"⟩
def ym_53 : MethodName := ⟨"ShadeCarpets$Tape", "isNumber", "(I)Z"⟩
def ym_54 : MethodName := ⟨"ShadeCarpets$Tape", "isWord", "(Ljava/lang/String;)Z"⟩
def ym_55 : MethodName := ⟨"ShadeCarpets$Tape", "advance", "()V"⟩
def ym_56 : MethodName := ⟨"ShadeCarpets$Tape", "takeDigits", "()V"⟩
def ym_57 : MethodName := ⟨"ShadeCarpets$Tape", "isLetter", "(I)Z"⟩
def ym_58 : MethodName := ⟨"ShadeCarpets$Tape", "isDigit", "(I)Z"⟩
def ym_59 : MethodName := ⟨"ShadeCarpets$Way", "<init>", "(LShadeCarpets$Kind;)V"⟩
def ym_60 : MethodName := ⟨"ShadeCarpets$Way", "begin", "(LShadeCarpets$Land;LShadeCarpets$Carrier;I)V"⟩
def ym_61 : MethodName := ⟨"ShadeCarpets$Way", "spare", "(I)V"⟩
def ym_62 : MethodName := ⟨"ShadeCarpets$Way", "passHour", "()V"⟩
def ym_63 : MethodName := ⟨"ShadeCarpets$Way", "hoursTo", "(I)I"⟩
def ym_64 : MethodName := ⟨"ShadeCarpets$Way", "seekBest", "(LShadeCarpets$Land;I)V"⟩
def ym_65 : MethodName := ⟨"ShadeCarpets$Way", "weigh", "(II)V"⟩
def ym_66 : MethodName := ⟨"ShadeCarpets", "<init>", "()V"⟩
def ym_67 : MethodName := ⟨"ShadeCarpets", "place", "(III)I"⟩
def ym_68 : MethodName := ⟨"ShadeCarpets", "placeOf", "(II)I"⟩
def ym_69 : MethodName := ⟨"ShadeCarpets", "clouds", "(I)I"⟩
def ym_70 : MethodName := ⟨"ShadeCarpets", "heat", "(I)I"⟩
def ym_71 : MethodName := ⟨"ShadeCarpets", "carrier", "(II)I"⟩
def ym_72 : MethodName := ⟨"ShadeCarpets", "of", "(II)I"⟩
def ym_73 : MethodName := ⟨"ShadeCarpets", "set", "(III)I"⟩
def ym_74 : MethodName := ⟨"ShadeCarpets", "turn", "(II)I"⟩
def ym_75 : MethodName := ⟨"ShadeCarpets", "as", "(II)I"⟩
def ym_76 : MethodName := ⟨"ShadeCarpets", "go", "(II)I"⟩
def ym_77 : MethodName := ⟨"ShadeCarpets", "sell", "(I)I"⟩
def ym_78 : MethodName := ⟨"ShadeCarpets", "hours", "(I)I"⟩
def ym_79 : MethodName := ⟨"ShadeCarpets", "now", "(I)I"⟩
def ym_80 : MethodName := ⟨"ShadeCarpets", "on", "(II)I"⟩
def ym_81 : MethodName := ⟨"ShadeCarpets", "found", "(I)I"⟩
def ym_82 : MethodName := ⟨"ShadeCarpets", "firstFound", "()I"⟩
def ym_83 : MethodName := ⟨"ShadeCarpets", "soonest", "(II)I"⟩
def ym_84 : MethodName := ⟨"ShadeCarpets", "reach", "(II)I"⟩
def ym_85 : MethodName := ⟨"ShadeCarpets", "cover", "(III)I"⟩
def ym_86 : MethodName := ⟨"ShadeCarpets", "best", "(II)I"⟩
def ym_87 : MethodName := ⟨"ShadeCarpets", "where", "(II)I"⟩
def ym_88 : MethodName := ⟨"ShadeCarpets", "post", "(II)I"⟩
def ym_89 : MethodName := ⟨"ShadeCarpets", "kind", "(II)I"⟩
def ym_90 : MethodName := ⟨"ShadeCarpets", "depart", "(II)I"⟩
def ym_91 : MethodName := ⟨"ShadeCarpets", "feed", "(II)I"⟩
def ym_92 : MethodName := ⟨"ShadeCarpets", "wipe", "()I"⟩
def ym_93 : MethodName := ⟨"ShadeCarpets", "land", "()I"⟩
def ym_94 : MethodName := ⟨"ShadeCarpets", "sheet", "(III)I"⟩
def ym_95 : MethodName := ⟨"ShadeCarpets", "write", "(IIJ)J"⟩
def ym_96 : MethodName := ⟨"ShadeCarpets", "copy", "(IIIII)I"⟩
def ym_97 : MethodName := ⟨"ShadeCarpets", "lays", "(I)I"⟩
def ym_98 : MethodName := ⟨"ShadeCarpets", "book", "(II)I"⟩
def ym_99 : MethodName := ⟨"ShadeCarpets", "read", "(II)I"⟩
def ym_100 : MethodName := ⟨"ShadeCarpets", "image", "()I"⟩
def ym_101 : MethodName := ⟨"ShadeCarpets", "undo", "()I"⟩
def ym_102 : MethodName := ⟨"ShadeCarpets", "tear", "()I"⟩
def ym_103 : MethodName := ⟨"ShadeCarpets", "count", "(I)I"⟩
def ym_104 : MethodName := ⟨"ShadeCarpets", "status", "(I)I"⟩
def ym_105 : MethodName := ⟨"ShadeCarpets", "finding", "(I)I"⟩
def ym_106 : MethodName := ⟨"ShadeCarpets", "isCarrier", "(I)Z"⟩
def ym_107 : MethodName := ⟨"ShadeCarpets", "isPlace", "(I)Z"⟩
def ym_108 : MethodName := ⟨"ShadeCarpets", "isKind", "(I)Z"⟩
def ym_109 : MethodName := ⟨"ShadeCarpets", "isSheet", "(I)Z"⟩
def ym_110 : MethodName := ⟨"ShadeCarpets", "within", "(II)Z"⟩
def ym_111 : MethodName := ⟨"ShadeCarpets", "mayBe", "(II)Z"⟩
def ym_112 : MethodName := ⟨"ShadeCarpets", "heatAt", "(I)I"⟩
def ym_113 : MethodName := ⟨"ShadeCarpets", "spread", "(I)I"⟩
def ym_114 : MethodName := ⟨"ShadeCarpets", "nextTo", "(I)I"⟩
def ym_115 : MethodName := ⟨"ShadeCarpets", "hoursUntilFound", "(LShadeCarpets$Carrier;)I"⟩
def ym_116 : MethodName := ⟨"ShadeCarpetsModel", "<init>", "()V"⟩
def ym_117 : MethodName := ⟨"ShadeCarpetsModel", "in", "(JJJ)Z"⟩
def ym_118 : MethodName := ⟨"ShadeCarpetsModel", "finds", "(I)I"⟩
def ym_119 : MethodName := ⟨"ShadeCarpetsModel", "saves", "()V"⟩
def ym_120 : MethodName := ⟨"ShadeCarpetsModel", "putsBack", "()V"⟩
def ym_121 : MethodName := ⟨"ShadeCarpetsModel", "laysAside", "()V"⟩
def ym_122 : MethodName := ⟨"ShadeCarpetsModel", "takesBack", "(I)I"⟩
def ym_123 : MethodName := ⟨"ShadeCarpetsModel", "becomes", "(II)I"⟩
def ym_124 : MethodName := ⟨"ShadeCarpetsModel", "isPlace", "(I)Z"⟩
def ym_125 : MethodName := ⟨"ShadeCarpetsModel", "isCarrier", "(I)Z"⟩
def ym_126 : MethodName := ⟨"ShadeCarpetsModel", "isKind", "(I)Z"⟩
def ym_127 : MethodName := ⟨"ShadeCarpetsModel", "spotOf", "(II)I"⟩
def ym_128 : MethodName := ⟨"ShadeCarpetsModel", "its", "(II)I"⟩
def ym_129 : MethodName := ⟨"ShadeCarpetsModel", "place", "(III)I"⟩
def ym_130 : MethodName := ⟨"ShadeCarpetsModel", "thoseAt", "(I)I"⟩
def ym_131 : MethodName := ⟨"ShadeCarpetsModel", "nextTo", "(I)I"⟩
def ym_132 : MethodName := ⟨"ShadeCarpetsModel", "placeOf", "(II)I"⟩
def ym_133 : MethodName := ⟨"ShadeCarpetsModel", "clouds", "(I)I"⟩
def ym_134 : MethodName := ⟨"ShadeCarpetsModel", "heatOf", "(I)I"⟩
def ym_135 : MethodName := ⟨"ShadeCarpetsModel", "heat", "(I)I"⟩
def ym_136 : MethodName := ⟨"ShadeCarpetsModel", "adds", "(II)I"⟩
def ym_137 : MethodName := ⟨"ShadeCarpetsModel", "carrier", "(II)I"⟩
def ym_138 : MethodName := ⟨"ShadeCarpetsModel", "atLeastNothing", "(I)I"⟩
def ym_139 : MethodName := ⟨"ShadeCarpetsModel", "coolOf", "(III)I"⟩
def ym_140 : MethodName := ⟨"ShadeCarpetsModel", "fadesOf", "(II)I"⟩
def ym_141 : MethodName := ⟨"ShadeCarpetsModel", "valueOf", "(III)I"⟩
def ym_142 : MethodName := ⟨"ShadeCarpetsModel", "isFoundAt", "(IIII)Z"⟩
def ym_143 : MethodName := ⟨"ShadeCarpetsModel", "isFoundNow", "(I)Z"⟩
def ym_144 : MethodName := ⟨"ShadeCarpetsModel", "valueNow", "(I)I"⟩
def ym_145 : MethodName := ⟨"ShadeCarpetsModel", "of", "(II)I"⟩
def ym_146 : MethodName := ⟨"ShadeCarpetsModel", "set", "(III)I"⟩
def ym_147 : MethodName := ⟨"ShadeCarpetsModel", "turn", "(II)I"⟩
def ym_148 : MethodName := ⟨"ShadeCarpetsModel", "isUnder", "(II)Z"⟩
def ym_149 : MethodName := ⟨"ShadeCarpetsModel", "as", "(II)I"⟩
def ym_150 : MethodName := ⟨"ShadeCarpetsModel", "go", "(II)I"⟩
def ym_151 : MethodName := ⟨"ShadeCarpetsModel", "sell", "(I)I"⟩
def ym_152 : MethodName := ⟨"ShadeCarpetsModel", "hour", "()V"⟩
def ym_153 : MethodName := ⟨"ShadeCarpetsModel", "hoursGo", "(I)V"⟩
def ym_154 : MethodName := ⟨"ShadeCarpetsModel", "together", "(I)I"⟩
def ym_155 : MethodName := ⟨"ShadeCarpetsModel", "hours", "(I)I"⟩
def ym_156 : MethodName := ⟨"ShadeCarpetsModel", "shaded", "()I"⟩
def ym_157 : MethodName := ⟨"ShadeCarpetsModel", "posted", "()I"⟩
def ym_158 : MethodName := ⟨"ShadeCarpetsModel", "now", "(I)I"⟩
def ym_159 : MethodName := ⟨"ShadeCarpetsModel", "on", "(II)I"⟩
def ym_160 : MethodName := ⟨"ShadeCarpetsModel", "foundIn", "(I)I"⟩
def ym_161 : MethodName := ⟨"ShadeCarpetsModel", "found", "(I)I"⟩
def ym_162 : MethodName := ⟨"ShadeCarpetsModel", "firstFound", "()I"⟩
def ym_163 : MethodName := ⟨"ShadeCarpetsModel", "begins", "(I)V"⟩
def ym_164 : MethodName := ⟨"ShadeCarpetsModel", "goesOn", "(II)V"⟩
def ym_165 : MethodName := ⟨"ShadeCarpetsModel", "andNext", "(I)I"⟩
def ym_166 : MethodName := ⟨"ShadeCarpetsModel", "comesIn", "(III)I"⟩
def ym_167 : MethodName := ⟨"ShadeCarpetsModel", "soonestOf", "(II)I"⟩
def ym_168 : MethodName := ⟨"ShadeCarpetsModel", "isFar", "(I)Z"⟩
def ym_169 : MethodName := ⟨"ShadeCarpetsModel", "soonest", "(II)I"⟩
def ym_170 : MethodName := ⟨"ShadeCarpetsModel", "reach", "(II)I"⟩
def ym_171 : MethodName := ⟨"ShadeCarpetsModel", "cover", "(III)I"⟩
def ym_172 : MethodName := ⟨"ShadeCarpetsModel", "findBest", "(II)V"⟩
def ym_173 : MethodName := ⟨"ShadeCarpetsModel", "best", "(II)I"⟩
def ym_174 : MethodName := ⟨"ShadeCarpetsModel", "where", "(II)I"⟩
def ym_175 : MethodName := ⟨"ShadeCarpetsModel", "post", "(II)I"⟩
def ym_176 : MethodName := ⟨"ShadeCarpetsModel", "kind", "(II)I"⟩
def ym_177 : MethodName := ⟨"ShadeCarpetsModel", "depart", "(II)I"⟩
def ym_178 : MethodName := ⟨"ShadeCarpetsModel", "feed", "(II)I"⟩
def ym_179 : MethodName := ⟨"ShadeCarpetsModel", "wipe", "()I"⟩
def ym_180 : MethodName := ⟨"ShadeCarpetsModel", "byteAt", "(I)I"⟩
def ym_181 : MethodName := ⟨"ShadeCarpetsModel", "isLetter", "(I)Z"⟩
def ym_182 : MethodName := ⟨"ShadeCarpetsModel", "isDigit", "(I)Z"⟩
def ym_183 : MethodName := ⟨"ShadeCarpetsModel", "token", "()V"⟩
def ym_184 : MethodName := ⟨"ShadeCarpetsModel", "must", "(Z)V"⟩
def ym_185 : MethodName := ⟨"ShadeCarpetsModel", "word", "()J"⟩
def ym_186 : MethodName := ⟨"ShadeCarpetsModel", "number", "(II)V"⟩
def ym_187 : MethodName := ⟨"ShadeCarpetsModel", "kindHere", "()I"⟩
def ym_188 : MethodName := ⟨"ShadeCarpetsModel", "partItem", "(JII)V"⟩
def ym_189 : MethodName := ⟨"ShadeCarpetsModel", "carrierItem", "(I)V"⟩
def ym_190 : MethodName := ⟨"ShadeCarpetsModel", "placeItem", "(II)V"⟩
def ym_191 : MethodName := ⟨"ShadeCarpetsModel", "item", "()V"⟩
def ym_192 : MethodName := ⟨"ShadeCarpetsModel", "land", "()I"⟩
def ym_193 : MethodName := ⟨"ShadeCarpetsModel", "isOne", "(I)Z"⟩
def ym_194 : MethodName := ⟨"ShadeCarpetsModel", "sheet", "(III)I"⟩
def ym_195 : MethodName := ⟨"ShadeCarpetsModel", "narrowed", "(IJ)J"⟩
def ym_196 : MethodName := ⟨"ShadeCarpetsModel", "wrongSheet", "(I)I"⟩
def ym_197 : MethodName := ⟨"ShadeCarpetsModel", "write", "(IIJ)J"⟩
def ym_198 : MethodName := ⟨"ShadeCarpetsModel", "copy", "(IIIII)I"⟩
def ym_199 : MethodName := ⟨"ShadeCarpetsModel", "lays", "(I)I"⟩
def ym_200 : MethodName := ⟨"ShadeCarpetsModel", "wrongBook", "(II)I"⟩
def ym_201 : MethodName := ⟨"ShadeCarpetsModel", "book", "(II)I"⟩
def ym_202 : MethodName := ⟨"ShadeCarpetsModel", "read", "(II)I"⟩
def ym_203 : MethodName := ⟨"ShadeCarpetsModel", "image", "()I"⟩
def ym_204 : MethodName := ⟨"ShadeCarpetsModel", "undo", "()I"⟩
def ym_205 : MethodName := ⟨"ShadeCarpetsModel", "tear", "()I"⟩
def ym_206 : MethodName := ⟨"ShadeCarpetsModel", "prices", "()I"⟩
def ym_207 : MethodName := ⟨"ShadeCarpetsModel", "ones", "(I)I"⟩
def ym_208 : MethodName := ⟨"ShadeCarpetsModel", "count", "(I)I"⟩
def ym_209 : MethodName := ⟨"ShadeCarpetsModel", "status", "(I)I"⟩
def ym_210 : MethodName := ⟨"java/lang/Integer", "bitCount", "(I)I"⟩
def ym_211 : MethodName := ⟨"java/lang/Math", "floorMod", "(II)I"⟩
def ym_212 : MethodName := ⟨"java/lang/Math", "abs", "(I)I"⟩
def ym_213 : MethodName := ⟨"java/lang/Math", "max", "(II)I"⟩
def ym_214 : MethodName := ⟨"java/lang/Math", "min", "(II)I"⟩
def ym_215 : MethodName := ⟨"java/lang/String", "length", "()I"⟩
def ym_216 : MethodName := ⟨"java/lang/String", "charAt", "(I)C"⟩
def ym_217 : MethodName := ⟨"java/lang/String", "coder", "()B"⟩
def ym_218 : MethodName := ⟨"java/lang/String", "isLatin1", "()Z"⟩
def ym_219 : MethodName := ⟨"java/lang/String", "checkIndex", "(II)V"⟩
def ym_220 : MethodName := ⟨"java/lang/StringLatin1", "charAt", "([BI)C"⟩
def ym_221 : MethodName := ⟨"java/lang/StringUTF16", "getChar", "([BI)C"⟩
def ym_222 : MethodName := ⟨"java/lang/StringUTF16", "length", "([B)I"⟩
def ym_223 : MethodName := ⟨"java/lang/StringUTF16", "charAt", "([BI)C"⟩
def ym_224 : MethodName := ⟨"java/lang/StringUTF16", "checkIndex", "(I[B)V"⟩
def ym_225 : MethodName := ⟨"java/util/Arrays", "fill", "([JJ)V"⟩
def ym_226 : MethodName := ⟨"java/util/Arrays", "fill", "([II)V"⟩
def ym_227 : MethodName := ⟨"jdk/internal/util/Preconditions", "checkIndex", "(IILjava/util/function/BiFunction;)I"⟩
def sx_ml : List sx_MI := [(ym_0, prog_2_method_1_code, 4, (Option.none : Option Jvm.ClassFile.FieldType)), (ym_1, prog_2_method_2_code, 3, (Option.some Jvm.ClassFile.FieldType.int)), (ym_2, prog_2_method_3_code, 3, (Option.some Jvm.ClassFile.FieldType.int)), (ym_3, prog_2_method_4_code, 3, (Option.some Jvm.ClassFile.FieldType.int)), (ym_4, prog_3_method_1_code, 4, (Option.none : Option Jvm.ClassFile.FieldType)), (ym_5, prog_3_method_2_code, 3, (Option.some Jvm.ClassFile.FieldType.int)), (ym_6, prog_3_method_3_code, 3, (Option.some Jvm.ClassFile.FieldType.int)), (ym_7, prog_3_method_4_code, 3, (Option.some Jvm.ClassFile.FieldType.int)), (ym_8, prog_4_method_1_code, 2, (Option.none : Option Jvm.ClassFile.FieldType)), (ym_9, prog_4_method_2_code, 2, (Option.none : Option Jvm.ClassFile.FieldType)), (ym_10, prog_4_method_3_code, 3, (Option.none : Option Jvm.ClassFile.FieldType)), (ym_11, prog_4_method_4_code, 2, (Option.none : Option Jvm.ClassFile.FieldType)), (ym_12, prog_4_method_5_code, 3, (Option.some Jvm.ClassFile.FieldType.int)), (ym_13, prog_5_method_1_code, 4, (Option.none : Option Jvm.ClassFile.FieldType)), (ym_14, prog_5_method_2_code, 3, (Option.some Jvm.ClassFile.FieldType.int)), (ym_15, prog_5_method_3_code, 3, (Option.some Jvm.ClassFile.FieldType.int)), (ym_16, prog_5_method_4_code, 3, (Option.some Jvm.ClassFile.FieldType.int)), (ym_17, prog_6_method_1_code, 4, (Option.none : Option Jvm.ClassFile.FieldType)), (ym_18, prog_6_method_2_code, 3, (Option.some Jvm.ClassFile.FieldType.int)), (ym_19, prog_7_method_1_code, 4, (Option.none : Option Jvm.ClassFile.FieldType)), (ym_20, prog_7_method_2_code, 3, (Option.some Jvm.ClassFile.FieldType.boolean)), (ym_21, prog_7_method_3_code, 3, (Option.some Jvm.ClassFile.FieldType.int)), (ym_22, prog_7_method_4_code, 3, (Option.some Jvm.ClassFile.FieldType.int)), (ym_23, prog_7_method_5_code, 3, (Option.some Jvm.ClassFile.FieldType.int)), (ym_24, prog_8_method_1_code, 3, (Option.none : Option Jvm.ClassFile.FieldType)), (ym_25, prog_8_method_2_code, 3, (Option.none : Option Jvm.ClassFile.FieldType)), (ym_26, prog_8_method_3_code, 1, (Option.some Jvm.ClassFile.FieldType.boolean)), (ym_27, prog_8_method_4_code, 3, (Option.some Jvm.ClassFile.FieldType.int)), (ym_28, prog_8_method_5_code, 3, (Option.some Jvm.ClassFile.FieldType.boolean)), (ym_29, prog_8_method_6_code, 3, (Option.some Jvm.ClassFile.FieldType.boolean)), (ym_30, prog_8_method_7_code, 2, (Option.none : Option Jvm.ClassFile.FieldType)), (ym_31, prog_8_method_8_code, 2, (Option.some Jvm.ClassFile.FieldType.int)), (ym_32, prog_8_method_9_code, 4, (Option.some Jvm.ClassFile.FieldType.int)), (ym_33, prog_8_method_10_code, 3, (Option.some Jvm.ClassFile.FieldType.int)), (ym_34, prog_8_method_11_code, 3, (Option.some Jvm.ClassFile.FieldType.int)), (ym_35, prog_8_method_12_code, 3, (Option.some Jvm.ClassFile.FieldType.int)), (ym_36, prog_8_method_13_code, 3, (Option.some Jvm.ClassFile.FieldType.int)), (ym_37, prog_8_method_14_code, 3, (Option.some Jvm.ClassFile.FieldType.int)), (ym_38, prog_9_method_1_code, 4, (Option.none : Option Jvm.ClassFile.FieldType)), (ym_39, prog_9_method_2_code, 3, (Option.some Jvm.ClassFile.FieldType.int)), (ym_40, prog_9_method_3_code, 3, (Option.some Jvm.ClassFile.FieldType.int)), (ym_41, prog_10_method_1_code, 1, (Option.none : Option Jvm.ClassFile.FieldType)), (ym_42, prog_10_method_2_code, 1, (Option.some Jvm.ClassFile.FieldType.boolean)), (ym_43, prog_10_method_3_code, 3, (Option.none : Option Jvm.ClassFile.FieldType)), (ym_44, prog_10_method_4_code, 3, (Option.some Jvm.ClassFile.FieldType.long)), (ym_45, prog_10_method_5_code, 3, (Option.some Jvm.ClassFile.FieldType.boolean)), (ym_46, prog_11_method_1_code, 1, (Option.none : Option Jvm.ClassFile.FieldType)), (ym_47, prog_11_method_2_code, 2, (Option.none : Option Jvm.ClassFile.FieldType)), (ym_48, prog_11_method_3_code, 4, (Option.some Jvm.ClassFile.FieldType.int)), (ym_49, prog_11_method_4_code, 4, (Option.some Jvm.ClassFile.FieldType.boolean)), (ym_50, prog_11_method_5_code, 4, (Option.some Jvm.ClassFile.FieldType.boolean)), (ym_51, prog_11_method_6_code, 2, (Option.some Jvm.ClassFile.FieldType.boolean)), (ym_52, prog_11_method_7_code, 4, (Option.some Jvm.ClassFile.FieldType.boolean)), (ym_53, prog_11_method_8_code, 2, (Option.some Jvm.ClassFile.FieldType.boolean)), (ym_54, prog_11_method_9_code, 3, (Option.some Jvm.ClassFile.FieldType.boolean)), (ym_55, prog_11_method_10_code, 1, (Option.none : Option Jvm.ClassFile.FieldType)), (ym_56, prog_11_method_11_code, 1, (Option.none : Option Jvm.ClassFile.FieldType)), (ym_57, prog_11_method_12_code, 2, (Option.some Jvm.ClassFile.FieldType.boolean)), (ym_58, prog_11_method_13_code, 2, (Option.some Jvm.ClassFile.FieldType.boolean)), (ym_59, prog_12_method_1_code, 2, (Option.none : Option Jvm.ClassFile.FieldType)), (ym_60, prog_12_method_2_code, 6, (Option.none : Option Jvm.ClassFile.FieldType)), (ym_61, prog_12_method_3_code, 2, (Option.none : Option Jvm.ClassFile.FieldType)), (ym_62, prog_12_method_4_code, 2, (Option.none : Option Jvm.ClassFile.FieldType)), (ym_63, prog_12_method_5_code, 3, (Option.some Jvm.ClassFile.FieldType.int)), (ym_64, prog_12_method_6_code, 5, (Option.none : Option Jvm.ClassFile.FieldType)), (ym_65, prog_12_method_7_code, 4, (Option.none : Option Jvm.ClassFile.FieldType)), (ym_66, prog_1_method_1_code, 5, (Option.none : Option Jvm.ClassFile.FieldType)), (ym_67, prog_1_method_2_code, 5, (Option.some Jvm.ClassFile.FieldType.int)), (ym_68, prog_1_method_3_code, 3, (Option.some Jvm.ClassFile.FieldType.int)), (ym_69, prog_1_method_4_code, 3, (Option.some Jvm.ClassFile.FieldType.int)), (ym_70, prog_1_method_5_code, 2, (Option.some Jvm.ClassFile.FieldType.int)), (ym_71, prog_1_method_6_code, 3, (Option.some Jvm.ClassFile.FieldType.int)), (ym_72, prog_1_method_7_code, 4, (Option.some Jvm.ClassFile.FieldType.int)), (ym_73, prog_1_method_8_code, 6, (Option.some Jvm.ClassFile.FieldType.int)), (ym_74, prog_1_method_9_code, 5, (Option.some Jvm.ClassFile.FieldType.int)), (ym_75, prog_1_method_10_code, 4, (Option.some Jvm.ClassFile.FieldType.int)), (ym_76, prog_1_method_11_code, 4, (Option.some Jvm.ClassFile.FieldType.int)), (ym_77, prog_1_method_12_code, 4, (Option.some Jvm.ClassFile.FieldType.int)), (ym_78, prog_1_method_13_code, 3, (Option.some Jvm.ClassFile.FieldType.int)), (ym_79, prog_1_method_14_code, 2, (Option.some Jvm.ClassFile.FieldType.int)), (ym_80, prog_1_method_15_code, 4, (Option.some Jvm.ClassFile.FieldType.int)), (ym_81, prog_1_method_16_code, 3, (Option.some Jvm.ClassFile.FieldType.int)), (ym_82, prog_1_method_17_code, 5, (Option.some Jvm.ClassFile.FieldType.int)), (ym_83, prog_1_method_18_code, 4, (Option.some Jvm.ClassFile.FieldType.int)), (ym_84, prog_1_method_19_code, 4, (Option.some Jvm.ClassFile.FieldType.int)), (ym_85, prog_1_method_20_code, 5, (Option.some Jvm.ClassFile.FieldType.int)), (ym_86, prog_1_method_21_code, 3, (Option.some Jvm.ClassFile.FieldType.int)), (ym_87, prog_1_method_22_code, 3, (Option.some Jvm.ClassFile.FieldType.int)), (ym_88, prog_1_method_23_code, 8, (Option.some Jvm.ClassFile.FieldType.int)), (ym_89, prog_1_method_24_code, 6, (Option.some Jvm.ClassFile.FieldType.int)), (ym_90, prog_1_method_25_code, 7, (Option.some Jvm.ClassFile.FieldType.int)), (ym_91, prog_1_method_26_code, 4, (Option.some Jvm.ClassFile.FieldType.int)), (ym_92, prog_1_method_27_code, 2, (Option.some Jvm.ClassFile.FieldType.int)), (ym_93, prog_1_method_28_code, 2, (Option.some Jvm.ClassFile.FieldType.int)), (ym_94, prog_1_method_29_code, 4, (Option.some Jvm.ClassFile.FieldType.int)), (ym_95, prog_1_method_30_code, 8, (Option.some Jvm.ClassFile.FieldType.long)), (ym_96, prog_1_method_31_code, 8, (Option.some Jvm.ClassFile.FieldType.int)), (ym_97, prog_1_method_32_code, 7, (Option.some Jvm.ClassFile.FieldType.int)), (ym_98, prog_1_method_33_code, 5, (Option.some Jvm.ClassFile.FieldType.int)), (ym_99, prog_1_method_34_code, 7, (Option.some Jvm.ClassFile.FieldType.int)), (ym_100, prog_1_method_35_code, 1, (Option.some Jvm.ClassFile.FieldType.int)), (ym_101, prog_1_method_36_code, 1, (Option.some Jvm.ClassFile.FieldType.int)), (ym_102, prog_1_method_37_code, 2, (Option.some Jvm.ClassFile.FieldType.int)), (ym_103, prog_1_method_38_code, 2, (Option.some Jvm.ClassFile.FieldType.int)), (ym_104, prog_1_method_39_code, 4, (Option.some Jvm.ClassFile.FieldType.int)), (ym_105, prog_1_method_40_code, 3, (Option.some Jvm.ClassFile.FieldType.int)), (ym_106, prog_1_method_41_code, 2, (Option.some Jvm.ClassFile.FieldType.boolean)), (ym_107, prog_1_method_42_code, 1, (Option.some Jvm.ClassFile.FieldType.boolean)), (ym_108, prog_1_method_43_code, 1, (Option.some Jvm.ClassFile.FieldType.boolean)), (ym_109, prog_1_method_44_code, 1, (Option.some Jvm.ClassFile.FieldType.boolean)), (ym_110, prog_1_method_45_code, 2, (Option.some Jvm.ClassFile.FieldType.boolean)), (ym_111, prog_1_method_46_code, 2, (Option.some Jvm.ClassFile.FieldType.boolean)), (ym_112, prog_1_method_47_code, 1, (Option.some Jvm.ClassFile.FieldType.int)), (ym_113, prog_1_method_48_code, 2, (Option.some Jvm.ClassFile.FieldType.int)), (ym_114, prog_1_method_49_code, 1, (Option.some Jvm.ClassFile.FieldType.int)), (ym_115, prog_1_method_50_code, 3, (Option.some Jvm.ClassFile.FieldType.int)), (ym_116, prog_14_method_1_code, 2, (Option.none : Option Jvm.ClassFile.FieldType)), (ym_117, prog_14_method_2_code, 6, (Option.some Jvm.ClassFile.FieldType.boolean)), (ym_118, prog_14_method_3_code, 2, (Option.some Jvm.ClassFile.FieldType.int)), (ym_119, prog_14_method_4_code, 2, (Option.none : Option Jvm.ClassFile.FieldType)), (ym_120, prog_14_method_5_code, 2, (Option.none : Option Jvm.ClassFile.FieldType)), (ym_121, prog_14_method_6_code, 2, (Option.none : Option Jvm.ClassFile.FieldType)), (ym_122, prog_14_method_7_code, 3, (Option.some Jvm.ClassFile.FieldType.int)), (ym_123, prog_14_method_8_code, 4, (Option.some Jvm.ClassFile.FieldType.int)), (ym_124, prog_14_method_9_code, 1, (Option.some Jvm.ClassFile.FieldType.boolean)), (ym_125, prog_14_method_10_code, 2, (Option.some Jvm.ClassFile.FieldType.boolean)), (ym_126, prog_14_method_11_code, 1, (Option.some Jvm.ClassFile.FieldType.boolean)), (ym_127, prog_14_method_12_code, 2, (Option.some Jvm.ClassFile.FieldType.int)), (ym_128, prog_14_method_13_code, 3, (Option.some Jvm.ClassFile.FieldType.int)), (ym_129, prog_14_method_14_code, 5, (Option.some Jvm.ClassFile.FieldType.int)), (ym_130, prog_14_method_15_code, 4, (Option.some Jvm.ClassFile.FieldType.int)), (ym_131, prog_14_method_16_code, 2, (Option.some Jvm.ClassFile.FieldType.int)), (ym_132, prog_14_method_17_code, 3, (Option.some Jvm.ClassFile.FieldType.int)), (ym_133, prog_14_method_18_code, 2, (Option.some Jvm.ClassFile.FieldType.int)), (ym_134, prog_14_method_19_code, 2, (Option.some Jvm.ClassFile.FieldType.int)), (ym_135, prog_14_method_20_code, 2, (Option.some Jvm.ClassFile.FieldType.int)), (ym_136, prog_14_method_21_code, 5, (Option.some Jvm.ClassFile.FieldType.int)), (ym_137, prog_14_method_22_code, 3, (Option.some Jvm.ClassFile.FieldType.int)), (ym_138, prog_14_method_23_code, 1, (Option.some Jvm.ClassFile.FieldType.int)), (ym_139, prog_14_method_24_code, 6, (Option.some Jvm.ClassFile.FieldType.int)), (ym_140, prog_14_method_25_code, 4, (Option.some Jvm.ClassFile.FieldType.int)), (ym_141, prog_14_method_26_code, 5, (Option.some Jvm.ClassFile.FieldType.int)), (ym_142, prog_14_method_27_code, 6, (Option.some Jvm.ClassFile.FieldType.boolean)), (ym_143, prog_14_method_28_code, 2, (Option.some Jvm.ClassFile.FieldType.boolean)), (ym_144, prog_14_method_29_code, 2, (Option.some Jvm.ClassFile.FieldType.int)), (ym_145, prog_14_method_30_code, 3, (Option.some Jvm.ClassFile.FieldType.int)), (ym_146, prog_14_method_31_code, 5, (Option.some Jvm.ClassFile.FieldType.int)), (ym_147, prog_14_method_32_code, 3, (Option.some Jvm.ClassFile.FieldType.int)), (ym_148, prog_14_method_33_code, 2, (Option.some Jvm.ClassFile.FieldType.boolean)), (ym_149, prog_14_method_34_code, 3, (Option.some Jvm.ClassFile.FieldType.int)), (ym_150, prog_14_method_35_code, 3, (Option.some Jvm.ClassFile.FieldType.int)), (ym_151, prog_14_method_36_code, 4, (Option.some Jvm.ClassFile.FieldType.int)), (ym_152, prog_14_method_37_code, 2, (Option.none : Option Jvm.ClassFile.FieldType)), (ym_153, prog_14_method_38_code, 3, (Option.none : Option Jvm.ClassFile.FieldType)), (ym_154, prog_14_method_39_code, 4, (Option.some Jvm.ClassFile.FieldType.int)), (ym_155, prog_14_method_40_code, 2, (Option.some Jvm.ClassFile.FieldType.int)), (ym_156, prog_14_method_41_code, 3, (Option.some Jvm.ClassFile.FieldType.int)), (ym_157, prog_14_method_42_code, 3, (Option.some Jvm.ClassFile.FieldType.int)), (ym_158, prog_14_method_43_code, 2, (Option.some Jvm.ClassFile.FieldType.int)), (ym_159, prog_14_method_44_code, 3, (Option.some Jvm.ClassFile.FieldType.int)), (ym_160, prog_14_method_45_code, 3, (Option.some Jvm.ClassFile.FieldType.int)), (ym_161, prog_14_method_46_code, 3, (Option.some Jvm.ClassFile.FieldType.int)), (ym_162, prog_14_method_47_code, 3, (Option.some Jvm.ClassFile.FieldType.int)), (ym_163, prog_14_method_48_code, 2, (Option.none : Option Jvm.ClassFile.FieldType)), (ym_164, prog_14_method_49_code, 4, (Option.none : Option Jvm.ClassFile.FieldType)), (ym_165, prog_14_method_50_code, 4, (Option.some Jvm.ClassFile.FieldType.int)), (ym_166, prog_14_method_51_code, 5, (Option.some Jvm.ClassFile.FieldType.int)), (ym_167, prog_14_method_52_code, 3, (Option.some Jvm.ClassFile.FieldType.int)), (ym_168, prog_14_method_53_code, 1, (Option.some Jvm.ClassFile.FieldType.boolean)), (ym_169, prog_14_method_54_code, 4, (Option.some Jvm.ClassFile.FieldType.int)), (ym_170, prog_14_method_55_code, 4, (Option.some Jvm.ClassFile.FieldType.int)), (ym_171, prog_14_method_56_code, 7, (Option.some Jvm.ClassFile.FieldType.int)), (ym_172, prog_14_method_57_code, 6, (Option.none : Option Jvm.ClassFile.FieldType)), (ym_173, prog_14_method_58_code, 3, (Option.some Jvm.ClassFile.FieldType.int)), (ym_174, prog_14_method_59_code, 3, (Option.some Jvm.ClassFile.FieldType.int)), (ym_175, prog_14_method_60_code, 8, (Option.some Jvm.ClassFile.FieldType.int)), (ym_176, prog_14_method_61_code, 7, (Option.some Jvm.ClassFile.FieldType.int)), (ym_177, prog_14_method_62_code, 8, (Option.some Jvm.ClassFile.FieldType.int)), (ym_178, prog_14_method_63_code, 4, (Option.some Jvm.ClassFile.FieldType.int)), (ym_179, prog_14_method_64_code, 2, (Option.some Jvm.ClassFile.FieldType.int)), (ym_180, prog_14_method_65_code, 2, (Option.some Jvm.ClassFile.FieldType.int)), (ym_181, prog_14_method_66_code, 1, (Option.some Jvm.ClassFile.FieldType.boolean)), (ym_182, prog_14_method_67_code, 1, (Option.some Jvm.ClassFile.FieldType.boolean)), (ym_183, prog_14_method_68_code, 3, (Option.none : Option Jvm.ClassFile.FieldType)), (ym_184, prog_14_method_69_code, 2, (Option.none : Option Jvm.ClassFile.FieldType)), (ym_185, prog_14_method_70_code, 4, (Option.some Jvm.ClassFile.FieldType.long)), (ym_186, prog_14_method_71_code, 6, (Option.none : Option Jvm.ClassFile.FieldType)), (ym_187, prog_14_method_72_code, 3, (Option.some Jvm.ClassFile.FieldType.int)), (ym_188, prog_14_method_73_code, 5, (Option.none : Option Jvm.ClassFile.FieldType)), (ym_189, prog_14_method_74_code, 3, (Option.none : Option Jvm.ClassFile.FieldType)), (ym_190, prog_14_method_75_code, 4, (Option.none : Option Jvm.ClassFile.FieldType)), (ym_191, prog_14_method_76_code, 5, (Option.none : Option Jvm.ClassFile.FieldType)), (ym_192, prog_14_method_77_code, 2, (Option.some Jvm.ClassFile.FieldType.int)), (ym_193, prog_14_method_78_code, 1, (Option.some Jvm.ClassFile.FieldType.boolean)), (ym_194, prog_14_method_79_code, 5, (Option.some Jvm.ClassFile.FieldType.int)), (ym_195, prog_14_method_80_code, 3, (Option.some Jvm.ClassFile.FieldType.long)), (ym_196, prog_14_method_81_code, 2, (Option.some Jvm.ClassFile.FieldType.int)), (ym_197, prog_14_method_82_code, 8, (Option.some Jvm.ClassFile.FieldType.long)), (ym_198, prog_14_method_83_code, 7, (Option.some Jvm.ClassFile.FieldType.int)), (ym_199, prog_14_method_84_code, 6, (Option.some Jvm.ClassFile.FieldType.int)), (ym_200, prog_14_method_85_code, 4, (Option.some Jvm.ClassFile.FieldType.int)), (ym_201, prog_14_method_86_code, 5, (Option.some Jvm.ClassFile.FieldType.int)), (ym_202, prog_14_method_87_code, 8, (Option.some Jvm.ClassFile.FieldType.int)), (ym_203, prog_14_method_88_code, 2, (Option.some Jvm.ClassFile.FieldType.int)), (ym_204, prog_14_method_89_code, 2, (Option.some Jvm.ClassFile.FieldType.int)), (ym_205, prog_14_method_90_code, 2, (Option.some Jvm.ClassFile.FieldType.int)), (ym_206, prog_14_method_91_code, 3, (Option.some Jvm.ClassFile.FieldType.int)), (ym_207, prog_14_method_92_code, 3, (Option.some Jvm.ClassFile.FieldType.int)), (ym_208, prog_14_method_93_code, 2, (Option.some Jvm.ClassFile.FieldType.int)), (ym_209, prog_14_method_94_code, 4, (Option.some Jvm.ClassFile.FieldType.int)), (ym_210, prog_15_method_49_code, 1, (Option.some Jvm.ClassFile.FieldType.int)), (ym_211, prog_16_method_50_code, 3, (Option.some Jvm.ClassFile.FieldType.int)), (ym_212, prog_16_method_59_code, 1, (Option.some Jvm.ClassFile.FieldType.int)), (ym_213, prog_16_method_65_code, 2, (Option.some Jvm.ClassFile.FieldType.int)), (ym_214, prog_16_method_69_code, 2, (Option.some Jvm.ClassFile.FieldType.int)), (ym_215, prog_17_method_54_code, 1, (Option.some Jvm.ClassFile.FieldType.int)), (ym_216, prog_17_method_56_code, 2, (Option.some Jvm.ClassFile.FieldType.char)), (ym_217, prog_17_method_152_code, 1, (Option.some Jvm.ClassFile.FieldType.byte)), (ym_218, prog_17_method_154_code, 1, (Option.some Jvm.ClassFile.FieldType.boolean)), (ym_219, prog_17_method_155_code, 2, (Option.none : Option Jvm.ClassFile.FieldType)), (ym_220, prog_18_method_2_code, 2, (Option.some Jvm.ClassFile.FieldType.char)), (ym_221, prog_19_method_5_code, 2, (Option.some Jvm.ClassFile.FieldType.char)), (ym_222, prog_19_method_6_code, 1, (Option.some Jvm.ClassFile.FieldType.int)), (ym_223, prog_19_method_83_code, 2, (Option.some Jvm.ClassFile.FieldType.char)), (ym_224, prog_19_method_91_code, 2, (Option.none : Option Jvm.ClassFile.FieldType)), (ym_225, prog_21_method_101_code, 5, (Option.none : Option Jvm.ClassFile.FieldType)), (ym_226, prog_21_method_103_code, 4, (Option.none : Option Jvm.ClassFile.FieldType)), (ym_227, prog_22_method_11_code, 3, (Option.some Jvm.ClassFile.FieldType.int))]
def sx_nl (k : Nat) : Nat := match sx_ml[k]? with
  | some q => q.2.2.1
  | none => 0
