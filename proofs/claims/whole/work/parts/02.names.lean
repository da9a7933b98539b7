-- classes, their fields in the order of the slots, their types (by program)
def RX0 : String := "SnowSentries$Braziers"
def TX0 : u_T := fun k => match k with
  | 0 => ("SnowSentries$Braziers", "size", "I", false)
  | 1 => ("SnowSentries$Braziers", "furlong", "[I", true)
  | 2 => ("SnowSentries$Braziers", "heat", "[I", true)
  | 3 => ("SnowSentries$Braziers", "from", "[I", true)
  | _ => ("SnowSentries$Braziers", "to", "[I", true)
def tyX0 : Nat → FieldType := fun k => match k with
  | 0 => .int
  | 1 => .array .int
  | 2 => .array .int
  | 3 => .array .int
  | _ => .array .int
theorem nmX0 : ∀ a, a < 5 → ∀ b, b < 5 → a ≠ b → (TX0 a).2.1 ≠ (TX0 b).2.1 := by decide +kernel
theorem tyX0_ok : ∀ k, k < 5 → parseFieldDescriptor (TX0 k).2.2.1 = some (tyX0 k) := by decide +kernel
def RX1 : String := "SnowSentries$Crews"
def TX1 : u_T := fun k => match k with
  | 0 => ("SnowSentries$Crews", "held", "I", false)
  | 1 => ("SnowSentries$Crews", "snow", "I", false)
  | 2 => ("SnowSentries$Crews", "bits", "I", false)
  | _ => ("SnowSentries$Crews", "needs", "[I", true)
def tyX1 : Nat → FieldType := fun k => match k with
  | 0 => .int
  | 1 => .int
  | 2 => .int
  | _ => .array .int
theorem nmX1 : ∀ a, a < 4 → ∀ b, b < 4 → a ≠ b → (TX1 a).2.1 ≠ (TX1 b).2.1 := by decide +kernel
theorem tyX1_ok : ∀ k, k < 4 → parseFieldDescriptor (TX1 k).2.2.1 = some (tyX1 k) := by decide +kernel
def RX2 : String := "SnowSentries$Felt"
def TX2 : u_T := fun k => match k with
  | 0 => ("SnowSentries$Felt", "size", "I", false)
  | 1 => ("SnowSentries$Felt", "found", "I", false)
  | 2 => ("SnowSentries$Felt", "firstFurlong", "I", false)
  | 3 => ("SnowSentries$Felt", "otherFurlong", "I", false)
  | 4 => ("SnowSentries$Felt", "firstHeat", "I", false)
  | 5 => ("SnowSentries$Felt", "otherHeat", "I", false)
  | _ => ("SnowSentries$Felt", "heats", "[I", true)
def tyX2 : Nat → FieldType := fun k => match k with
  | 0 => .int
  | 1 => .int
  | 2 => .int
  | 3 => .int
  | 4 => .int
  | 5 => .int
  | _ => .array .int
theorem nmX2 : ∀ a, a < 7 → ∀ b, b < 7 → a ≠ b → (TX2 a).2.1 ≠ (TX2 b).2.1 := by decide +kernel
theorem tyX2_ok : ∀ k, k < 7 → parseFieldDescriptor (TX2 k).2.2.1 = some (tyX2 k) := by decide +kernel
def RX3 : String := "SnowSentries$Forecast"
def TX3 : u_T := fun k => match k with
  | 0 => ("SnowSentries$Forecast", "numerator", "J", false)
  | 1 => ("SnowSentries$Forecast", "denominator", "J", false)
  | _ => ("SnowSentries$Forecast", "cases", "[J", true)
def tyX3 : Nat → FieldType := fun k => match k with
  | 0 => .long
  | 1 => .long
  | _ => .array .long
theorem nmX3 : ∀ a, a < 3 → ∀ b, b < 3 → a ≠ b → (TX3 a).2.1 ≠ (TX3 b).2.1 := by decide +kernel
theorem tyX3_ok : ∀ k, k < 3 → parseFieldDescriptor (TX3 k).2.2.1 = some (tyX3 k) := by decide +kernel
def RX4 : String := "SnowSentries$Land"
def TX4 : u_T := fun k => match k with
  | 0 => ("SnowSentries$Land", "furlongs", "I", false)
  | 1 => ("SnowSentries$Land", "chance", "I", false)
  | 2 => ("SnowSentries$Land", "frost", "[I", true)
  | 3 => ("SnowSentries$Land", "law", "LSnowSentries$Law;", true)
  | 4 => ("SnowSentries$Land", "houseCount", "I", false)
  | 5 => ("SnowSentries$Land", "houseFurlong", "[I", true)
  | 6 => ("SnowSentries$Land", "housePlace", "[I", true)
  | _ => ("SnowSentries$Land", "scene", "LSnowSentries$Scene;", true)
def tyX4 : Nat → FieldType := fun k => match k with
  | 0 => .int
  | 1 => .int
  | 2 => .array .int
  | 3 => .object "SnowSentries$Law"
  | 4 => .int
  | 5 => .array .int
  | 6 => .array .int
  | _ => .object "SnowSentries$Scene"
theorem nmX4 : ∀ a, a < 8 → ∀ b, b < 8 → a ≠ b → (TX4 a).2.1 ≠ (TX4 b).2.1 := by decide +kernel
theorem tyX4_ok : ∀ k, k < 8 → parseFieldDescriptor (TX4 k).2.2.1 = some (tyX4 k) := by decide +kernel
def RX5 : String := "SnowSentries$Law"
def TX5 : u_T := fun k => match k with
  | 0 => ("SnowSentries$Law", "head", "I", false)
  | 1 => ("SnowSentries$Law", "eyes", "I", false)
  | _ => ("SnowSentries$Law", "uniform", "I", false)
def tyX5 : Nat → FieldType := fun k => match k with
  | 0 => .int
  | 1 => .int
  | _ => .int
theorem nmX5 : ∀ a, a < 3 → ∀ b, b < 3 → a ≠ b → (TX5 a).2.1 ≠ (TX5 b).2.1 := by decide +kernel
theorem tyX5_ok : ∀ k, k < 3 → parseFieldDescriptor (TX5 k).2.2.1 = some (tyX5 k) := by decide +kernel
def RX6 : String := "SnowSentries$Man"
def TX6 : u_T := fun k => match k with
  | 0 => ("SnowSentries$Man", "there", "Z", false)
  | 1 => ("SnowSentries$Man", "kind", "I", false)
  | 2 => ("SnowSentries$Man", "base", "I", false)
  | 3 => ("SnowSentries$Man", "belly", "I", false)
  | 4 => ("SnowSentries$Man", "head", "I", false)
  | 5 => ("SnowSentries$Man", "eyes", "I", false)
  | _ => ("SnowSentries$Man", "uniform", "Z", false)
def tyX6 : Nat → FieldType := fun k => match k with
  | 0 => .boolean
  | 1 => .int
  | 2 => .int
  | 3 => .int
  | 4 => .int
  | 5 => .int
  | _ => .boolean
theorem nmX6 : ∀ a, a < 7 → ∀ b, b < 7 → a ≠ b → (TX6 a).2.1 ≠ (TX6 b).2.1 := by decide +kernel
theorem tyX6_ok : ∀ k, k < 7 → parseFieldDescriptor (TX6 k).2.2.1 = some (tyX6 k) := by decide +kernel
def RX7 : String := "SnowSentries$Scene"
def TX7 : u_T := fun k => match k with
  | 0 => ("SnowSentries$Scene", "hour", "I", false)
  | 1 => ("SnowSentries$Scene", "men", "[LSnowSentries$Man;", true)
  | 2 => ("SnowSentries$Scene", "snow", "[I", true)
  | 3 => ("SnowSentries$Scene", "water", "[I", true)
  | 4 => ("SnowSentries$Scene", "lines", "[I", true)
  | 5 => ("SnowSentries$Scene", "sun", "[I", true)
  | _ => ("SnowSentries$Scene", "fires", "LSnowSentries$Braziers;", true)
def tyX7 : Nat → FieldType := fun k => match k with
  | 0 => .int
  | 1 => .array (.object "SnowSentries$Man")
  | 2 => .array .int
  | 3 => .array .int
  | 4 => .array .int
  | 5 => .array .int
  | _ => .object "SnowSentries$Braziers"
theorem nmX7 : ∀ a, a < 7 → ∀ b, b < 7 → a ≠ b → (TX7 a).2.1 ≠ (TX7 b).2.1 := by decide +kernel
theorem tyX7_ok : ∀ k, k < 7 → parseFieldDescriptor (TX7 k).2.2.1 = some (tyX7 k) := by decide +kernel
def RX8 : String := "SnowSentries$Sheet"
def TX8 : u_T := fun k => match k with
  | 0 => ("SnowSentries$Sheet", "there", "Z", false)
  | 1 => ("SnowSentries$Sheet", "size", "I", false)
  | 2 => ("SnowSentries$Sheet", "cells", "[I", true)
  | _ => ("SnowSentries$Sheet", "lane", "I", false)
def tyX8 : Nat → FieldType := fun k => match k with
  | 0 => .boolean
  | 1 => .int
  | 2 => .array .int
  | _ => .int
theorem nmX8 : ∀ a, a < 4 → ∀ b, b < 4 → a ≠ b → (TX8 a).2.1 ≠ (TX8 b).2.1 := by decide +kernel
theorem tyX8_ok : ∀ k, k < 4 → parseFieldDescriptor (TX8 k).2.2.1 = some (tyX8 k) := by decide +kernel
def RX9 : String := "SnowSentries$Text"
def TX9 : u_T := fun k => match k with
  | 0 => ("SnowSentries$Text", "bytes", "[B", true)
  | 1 => ("SnowSentries$Text", "length", "I", false)
  | 2 => ("SnowSentries$Text", "lines", "I", false)
  | 3 => ("SnowSentries$Text", "fault", "I", false)
  | 4 => ("SnowSentries$Text", "place", "I", false)
  | 5 => ("SnowSentries$Text", "kind", "I", false)
  | 6 => ("SnowSentries$Text", "start", "I", false)
  | 7 => ("SnowSentries$Text", "stop", "I", false)
  | 8 => ("SnowSentries$Text", "value", "I", false)
  | 9 => ("SnowSentries$Text", "said", "I", false)
  | 10 => ("SnowSentries$Text", "snowSaid", "I", false)
  | _ => ("SnowSentries$Text", "farthest", "I", false)
def tyX9 : Nat → FieldType := fun k => match k with
  | 0 => .array .byte
  | 1 => .int
  | 2 => .int
  | 3 => .int
  | 4 => .int
  | 5 => .int
  | 6 => .int
  | 7 => .int
  | 8 => .int
  | 9 => .int
  | 10 => .int
  | _ => .int
theorem nmX9 : ∀ a, a < 12 → ∀ b, b < 12 → a ≠ b → (TX9 a).2.1 ≠ (TX9 b).2.1 := by decide +kernel
theorem tyX9_ok : ∀ k, k < 12 → parseFieldDescriptor (TX9 k).2.2.1 = some (tyX9 k) := by decide +kernel
def RX10 : String := "SnowSentries$Ways"
def TX10 : u_T := fun k => match k with
  | 0 => ("SnowSentries$Ways", "furlongs", "I", false)
  | 1 => ("SnowSentries$Ways", "first", "I", false)
  | 2 => ("SnowSentries$Ways", "through", "[[I", true)
  | _ => ("SnowSentries$Ways", "least", "[[I", true)
def tyX10 : Nat → FieldType := fun k => match k with
  | 0 => .int
  | 1 => .int
  | 2 => .array (.array .int)
  | _ => .array (.array .int)
theorem nmX10 : ∀ a, a < 4 → ∀ b, b < 4 → a ≠ b → (TX10 a).2.1 ≠ (TX10 b).2.1 := by decide +kernel
theorem tyX10_ok : ∀ k, k < 4 → parseFieldDescriptor (TX10 k).2.2.1 = some (tyX10 k) := by decide +kernel
def RX11 : String := "SnowSentries"
def TX11 : u_T := fun k => match k with
  | 0 => ("SnowSentries", "text", "LSnowSentries$Text;", true)
  | 1 => ("SnowSentries", "ahead", "LSnowSentries$Scene;", true)
  | 2 => ("SnowSentries", "images", "[LSnowSentries$Scene;", true)
  | 3 => ("SnowSentries", "imaged", "[Z", true)
  | 4 => ("SnowSentries", "rumour", "LSnowSentries$Felt;", true)
  | 5 => ("SnowSentries", "ways", "LSnowSentries$Ways;", true)
  | 6 => ("SnowSentries", "forecast", "LSnowSentries$Forecast;", true)
  | 7 => ("SnowSentries", "gangs", "LSnowSentries$Crews;", true)
  | 8 => ("SnowSentries", "sheets", "[LSnowSentries$Sheet;", true)
  | 9 => ("SnowSentries", "present", "LSnowSentries$Land;", false)
  | 10 => ("SnowSentries", "draft", "LSnowSentries$Land;", false)
  | _ => ("SnowSentries", "tear", "I", false)
def tyX11 : Nat → FieldType := fun k => match k with
  | 0 => .object "SnowSentries$Text"
  | 1 => .object "SnowSentries$Scene"
  | 2 => .array (.object "SnowSentries$Scene")
  | 3 => .array .boolean
  | 4 => .object "SnowSentries$Felt"
  | 5 => .object "SnowSentries$Ways"
  | 6 => .object "SnowSentries$Forecast"
  | 7 => .object "SnowSentries$Crews"
  | 8 => .array (.object "SnowSentries$Sheet")
  | 9 => .object "SnowSentries$Land"
  | 10 => .object "SnowSentries$Land"
  | _ => .int
theorem nmX11 : ∀ a, a < 12 → ∀ b, b < 12 → a ≠ b → (TX11 a).2.1 ≠ (TX11 b).2.1 := by decide +kernel
theorem tyX11_ok : ∀ k, k < 12 → parseFieldDescriptor (TX11 k).2.2.1 = some (tyX11 k) := by decide +kernel
def RX12 : String := "SnowSentriesModel"
def TX12 : u_T := fun k => match k with
  | 0 => ("SnowSentriesModel", "state", "[I", true)
  | 1 => ("SnowSentriesModel", "furlongs", "I", false)
  | 2 => ("SnowSentriesModel", "frosts", "[I", true)
  | 3 => ("SnowSentriesModel", "treaties", "[I", true)
  | 4 => ("SnowSentriesModel", "houses", "[I", true)
  | 5 => ("SnowSentriesModel", "houseMany", "I", false)
  | 6 => ("SnowSentriesModel", "chanceOf", "I", false)
  | 7 => ("SnowSentriesModel", "readPage", "[I", true)
  | 8 => ("SnowSentriesModel", "readFrosts", "[I", true)
  | 9 => ("SnowSentriesModel", "readTreaties", "[I", true)
  | 10 => ("SnowSentriesModel", "readHouses", "[I", true)
  | 11 => ("SnowSentriesModel", "readHouseMany", "I", false)
  | 12 => ("SnowSentriesModel", "readFurlongs", "I", false)
  | 13 => ("SnowSentriesModel", "toldOnes", "I", false)
  | 14 => ("SnowSentriesModel", "toldSnow", "I", false)
  | 15 => ("SnowSentriesModel", "highest", "I", false)
  | 16 => ("SnowSentriesModel", "tape", "[I", true)
  | 17 => ("SnowSentriesModel", "taped", "I", false)
  | 18 => ("SnowSentriesModel", "fault", "I", false)
  | 19 => ("SnowSentriesModel", "broken", "I", false)
  | 20 => ("SnowSentriesModel", "brokenAt", "I", false)
  | 21 => ("SnowSentriesModel", "spot", "I", false)
  | 22 => ("SnowSentriesModel", "here", "I", false)
  | 23 => ("SnowSentriesModel", "token", "I", false)
  | 24 => ("SnowSentriesModel", "value", "I", false)
  | 25 => ("SnowSentriesModel", "cuts", "[I", true)
  | 26 => ("SnowSentriesModel", "letters", "[I", true)
  | 27 => ("SnowSentriesModel", "needs", "[I", true)
  | 28 => ("SnowSentriesModel", "leastHeat", "[I", true)
  | 29 => ("SnowSentriesModel", "felts", "[I", true)
  | 30 => ("SnowSentriesModel", "feltMany", "I", false)
  | 31 => ("SnowSentriesModel", "isKept", "[Z", true)
  | 32 => ("SnowSentriesModel", "lanes", "[I", true)
  | 33 => ("SnowSentriesModel", "lengths", "[I", true)
  | 34 => ("SnowSentriesModel", "cells", "[I", true)
  | _ => ("SnowSentriesModel", "torn", "I", false)
def tyX12 : Nat → FieldType := fun k => match k with
  | 0 => .array .int
  | 1 => .int
  | 2 => .array .int
  | 3 => .array .int
  | 4 => .array .int
  | 5 => .int
  | 6 => .int
  | 7 => .array .int
  | 8 => .array .int
  | 9 => .array .int
  | 10 => .array .int
  | 11 => .int
  | 12 => .int
  | 13 => .int
  | 14 => .int
  | 15 => .int
  | 16 => .array .int
  | 17 => .int
  | 18 => .int
  | 19 => .int
  | 20 => .int
  | 21 => .int
  | 22 => .int
  | 23 => .int
  | 24 => .int
  | 25 => .array .int
  | 26 => .array .int
  | 27 => .array .int
  | 28 => .array .int
  | 29 => .array .int
  | 30 => .int
  | 31 => .array .boolean
  | 32 => .array .int
  | 33 => .array .int
  | 34 => .array .int
  | _ => .int
theorem nmX12 : ∀ a, a < 36 → ∀ b, b < 36 → a ≠ b → (TX12 a).2.1 ≠ (TX12 b).2.1 := by decide +kernel
theorem tyX12_ok : ∀ k, k < 36 → parseFieldDescriptor (TX12 k).2.2.1 = some (tyX12 k) := by decide +kernel
abbrev vwCl : List vw_C := [(RX0, TX0, 5), (RX1, TX1, 4), (RX2, TX2, 7), (RX3, TX3, 3), (RX4, TX4, 8), (RX5, TX5, 3), (RX6, TX6, 7), (RX7, TX7, 7), (RX8, TX8, 4), (RX9, TX9, 12), (RX10, TX10, 4), (RX11, TX11, 12), (RX12, TX12, 36)]
-- the words that every method carries: all good ones of the tables
def TB : List Cond := lw_tbl.filter goodWord
theorem TB_in {w : Cond} (h : w ∈ lw_tbl) (g : goodWord w = true) : w ∈ TB := List.mem_filter.mpr ⟨h, g⟩
theorem it_7 {w : Cond} (h : w ∈ tables_1_7) (g : goodWord w = true) : w ∈ TB := TB_in (List.mem_append_right _ (List.mem_append_right _ (List.mem_append_right _ (List.mem_append_right _ (List.mem_append_right _ (List.mem_append_right _ (List.mem_append_right _ h))))))) g
theorem it_1 {w : Cond} (h : w ∈ tables_1_1) (g : goodWord w = true) : w ∈ TB := TB_in (List.mem_append_right _ (List.mem_append_left _ h)) g
theorem it_2 {w : Cond} (h : w ∈ tables_1_2) (g : goodWord w = true) : w ∈ TB := TB_in (List.mem_append_right _ (List.mem_append_right _ (List.mem_append_left _ h))) g
theorem it_3 {w : Cond} (h : w ∈ tables_1_3) (g : goodWord w = true) : w ∈ TB := TB_in (List.mem_append_right _ (List.mem_append_right _ (List.mem_append_right _ (List.mem_append_left _ h)))) g
theorem it_4 {w : Cond} (h : w ∈ tables_1_4) (g : goodWord w = true) : w ∈ TB := TB_in (List.mem_append_right _ (List.mem_append_right _ (List.mem_append_right _ (List.mem_append_right _ (List.mem_append_left _ h))))) g
theorem it_5 {w : Cond} (h : w ∈ tables_1_5) (g : goodWord w = true) : w ∈ TB := TB_in (List.mem_append_right _ (List.mem_append_right _ (List.mem_append_right _ (List.mem_append_right _ (List.mem_append_right _ (List.mem_append_left _ h)))))) g
theorem it_6 {w : Cond} (h : w ∈ tables_1_6) (g : goodWord w = true) : w ∈ TB := TB_in (List.mem_append_right _ (List.mem_append_right _ (List.mem_append_right _ (List.mem_append_right _ (List.mem_append_right _ (List.mem_append_right _ (List.mem_append_left _ h))))))) g
theorem inX0 : ∀ w ∈ u_ws RX0 TX0 5, w ∈ TB := by
  intro w hw
  obtain ⟨k, hk, rfl⟩ := List.mem_map.mp hw
  have hk := List.mem_range.mp hk
  match k, hk with
  | 0, _ => exact it_1 (List.mem_of_getElem? (i := 102) rfl) rfl
  | 1, _ => exact it_1 (List.mem_of_getElem? (i := 104) rfl) rfl
  | 2, _ => exact it_1 (List.mem_of_getElem? (i := 106) rfl) rfl
  | 3, _ => exact it_1 (List.mem_of_getElem? (i := 108) rfl) rfl
  | 4, _ => exact it_1 (List.mem_of_getElem? (i := 110) rfl) rfl
  | k + 5, hk => exact absurd hk (by omega)
theorem inX1 : ∀ w ∈ u_ws RX1 TX1 4, w ∈ TB := by
  intro w hw
  obtain ⟨k, hk, rfl⟩ := List.mem_map.mp hw
  have hk := List.mem_range.mp hk
  match k, hk with
  | 0, _ => exact it_2 (List.mem_of_getElem? (i := 52) rfl) rfl
  | 1, _ => exact it_2 (List.mem_of_getElem? (i := 54) rfl) rfl
  | 2, _ => exact it_2 (List.mem_of_getElem? (i := 56) rfl) rfl
  | 3, _ => exact it_2 (List.mem_of_getElem? (i := 58) rfl) rfl
  | k + 4, hk => exact absurd hk (by omega)
theorem inX2 : ∀ w ∈ u_ws RX2 TX2 7, w ∈ TB := by
  intro w hw
  obtain ⟨k, hk, rfl⟩ := List.mem_map.mp hw
  have hk := List.mem_range.mp hk
  match k, hk with
  | 0, _ => exact it_1 (List.mem_of_getElem? (i := 223) rfl) rfl
  | 1, _ => exact it_1 (List.mem_of_getElem? (i := 225) rfl) rfl
  | 2, _ => exact it_1 (List.mem_of_getElem? (i := 227) rfl) rfl
  | 3, _ => exact it_1 (List.mem_of_getElem? (i := 229) rfl) rfl
  | 4, _ => exact it_1 (List.mem_of_getElem? (i := 231) rfl) rfl
  | 5, _ => exact it_1 (List.mem_of_getElem? (i := 233) rfl) rfl
  | 6, _ => exact it_1 (List.mem_of_getElem? (i := 235) rfl) rfl
  | k + 7, hk => exact absurd hk (by omega)
theorem inX3 : ∀ w ∈ u_ws RX3 TX3 3, w ∈ TB := by
  intro w hw
  obtain ⟨k, hk, rfl⟩ := List.mem_map.mp hw
  have hk := List.mem_range.mp hk
  match k, hk with
  | 0, _ => exact it_2 (List.mem_of_getElem? (i := 31) rfl) rfl
  | 1, _ => exact it_2 (List.mem_of_getElem? (i := 33) rfl) rfl
  | 2, _ => exact it_2 (List.mem_of_getElem? (i := 35) rfl) rfl
  | k + 3, hk => exact absurd hk (by omega)
theorem inX4 : ∀ w ∈ u_ws RX4 TX4 8, w ∈ TB := by
  intro w hw
  obtain ⟨k, hk, rfl⟩ := List.mem_map.mp hw
  have hk := List.mem_range.mp hk
  match k, hk with
  | 0, _ => exact it_2 (List.mem_of_getElem? (i := 160) rfl) rfl
  | 1, _ => exact it_2 (List.mem_of_getElem? (i := 162) rfl) rfl
  | 2, _ => exact it_2 (List.mem_of_getElem? (i := 164) rfl) rfl
  | 3, _ => exact it_2 (List.mem_of_getElem? (i := 166) rfl) rfl
  | 4, _ => exact it_2 (List.mem_of_getElem? (i := 168) rfl) rfl
  | 5, _ => exact it_2 (List.mem_of_getElem? (i := 170) rfl) rfl
  | 6, _ => exact it_2 (List.mem_of_getElem? (i := 172) rfl) rfl
  | 7, _ => exact it_2 (List.mem_of_getElem? (i := 174) rfl) rfl
  | k + 8, hk => exact absurd hk (by omega)
theorem inX5 : ∀ w ∈ u_ws RX5 TX5 3, w ∈ TB := by
  intro w hw
  obtain ⟨k, hk, rfl⟩ := List.mem_map.mp hw
  have hk := List.mem_range.mp hk
  match k, hk with
  | 0, _ => exact it_2 (List.mem_of_getElem? (i := 107) rfl) rfl
  | 1, _ => exact it_2 (List.mem_of_getElem? (i := 109) rfl) rfl
  | 2, _ => exact it_2 (List.mem_of_getElem? (i := 111) rfl) rfl
  | k + 3, hk => exact absurd hk (by omega)
theorem inX6 : ∀ w ∈ u_ws RX6 TX6 7, w ∈ TB := by
  intro w hw
  obtain ⟨k, hk, rfl⟩ := List.mem_map.mp hw
  have hk := List.mem_range.mp hk
  match k, hk with
  | 0, _ => exact it_1 (List.mem_of_getElem? (i := 148) rfl) rfl
  | 1, _ => exact it_1 (List.mem_of_getElem? (i := 150) rfl) rfl
  | 2, _ => exact it_1 (List.mem_of_getElem? (i := 152) rfl) rfl
  | 3, _ => exact it_1 (List.mem_of_getElem? (i := 154) rfl) rfl
  | 4, _ => exact it_1 (List.mem_of_getElem? (i := 156) rfl) rfl
  | 5, _ => exact it_1 (List.mem_of_getElem? (i := 158) rfl) rfl
  | 6, _ => exact it_1 (List.mem_of_getElem? (i := 160) rfl) rfl
  | k + 7, hk => exact absurd hk (by omega)
theorem inX7 : ∀ w ∈ u_ws RX7 TX7 7, w ∈ TB := by
  intro w hw
  obtain ⟨k, hk, rfl⟩ := List.mem_map.mp hw
  have hk := List.mem_range.mp hk
  match k, hk with
  | 0, _ => exact it_1 (List.mem_of_getElem? (i := 188) rfl) rfl
  | 1, _ => exact it_1 (List.mem_of_getElem? (i := 190) rfl) rfl
  | 2, _ => exact it_1 (List.mem_of_getElem? (i := 192) rfl) rfl
  | 3, _ => exact it_1 (List.mem_of_getElem? (i := 194) rfl) rfl
  | 4, _ => exact it_1 (List.mem_of_getElem? (i := 196) rfl) rfl
  | 5, _ => exact it_1 (List.mem_of_getElem? (i := 198) rfl) rfl
  | 6, _ => exact it_1 (List.mem_of_getElem? (i := 200) rfl) rfl
  | k + 7, hk => exact absurd hk (by omega)
theorem inX8 : ∀ w ∈ u_ws RX8 TX8 4, w ∈ TB := by
  intro w hw
  obtain ⟨k, hk, rfl⟩ := List.mem_map.mp hw
  have hk := List.mem_range.mp hk
  match k, hk with
  | 0, _ => exact it_2 (List.mem_of_getElem? (i := 75) rfl) rfl
  | 1, _ => exact it_2 (List.mem_of_getElem? (i := 77) rfl) rfl
  | 2, _ => exact it_2 (List.mem_of_getElem? (i := 79) rfl) rfl
  | 3, _ => exact it_2 (List.mem_of_getElem? (i := 81) rfl) rfl
  | k + 4, hk => exact absurd hk (by omega)
theorem inX9 : ∀ w ∈ u_ws RX9 TX9 12, w ∈ TB := by
  intro w hw
  obtain ⟨k, hk, rfl⟩ := List.mem_map.mp hw
  have hk := List.mem_range.mp hk
  match k, hk with
  | 0, _ => exact it_1 (List.mem_of_getElem? (i := 51) rfl) rfl
  | 1, _ => exact it_1 (List.mem_of_getElem? (i := 53) rfl) rfl
  | 2, _ => exact it_1 (List.mem_of_getElem? (i := 55) rfl) rfl
  | 3, _ => exact it_1 (List.mem_of_getElem? (i := 57) rfl) rfl
  | 4, _ => exact it_1 (List.mem_of_getElem? (i := 59) rfl) rfl
  | 5, _ => exact it_1 (List.mem_of_getElem? (i := 61) rfl) rfl
  | 6, _ => exact it_1 (List.mem_of_getElem? (i := 63) rfl) rfl
  | 7, _ => exact it_1 (List.mem_of_getElem? (i := 65) rfl) rfl
  | 8, _ => exact it_1 (List.mem_of_getElem? (i := 67) rfl) rfl
  | 9, _ => exact it_1 (List.mem_of_getElem? (i := 69) rfl) rfl
  | 10, _ => exact it_1 (List.mem_of_getElem? (i := 71) rfl) rfl
  | 11, _ => exact it_1 (List.mem_of_getElem? (i := 73) rfl) rfl
  | k + 12, hk => exact absurd hk (by omega)
theorem inX10 : ∀ w ∈ u_ws RX10 TX10 4, w ∈ TB := by
  intro w hw
  obtain ⟨k, hk, rfl⟩ := List.mem_map.mp hw
  have hk := List.mem_range.mp hk
  match k, hk with
  | 0, _ => exact it_2 (List.mem_of_getElem? (i := 11) rfl) rfl
  | 1, _ => exact it_2 (List.mem_of_getElem? (i := 13) rfl) rfl
  | 2, _ => exact it_2 (List.mem_of_getElem? (i := 15) rfl) rfl
  | 3, _ => exact it_2 (List.mem_of_getElem? (i := 17) rfl) rfl
  | k + 4, hk => exact absurd hk (by omega)
theorem inX11 : ∀ w ∈ u_ws RX11 TX11 12, w ∈ TB := by
  intro w hw
  obtain ⟨k, hk, rfl⟩ := List.mem_map.mp hw
  have hk := List.mem_range.mp hk
  match k, hk with
  | 0, _ => exact it_2 (List.mem_of_getElem? (i := 189) rfl) rfl
  | 1, _ => exact it_2 (List.mem_of_getElem? (i := 191) rfl) rfl
  | 2, _ => exact it_2 (List.mem_of_getElem? (i := 193) rfl) rfl
  | 3, _ => exact it_2 (List.mem_of_getElem? (i := 195) rfl) rfl
  | 4, _ => exact it_2 (List.mem_of_getElem? (i := 197) rfl) rfl
  | 5, _ => exact it_2 (List.mem_of_getElem? (i := 199) rfl) rfl
  | 6, _ => exact it_2 (List.mem_of_getElem? (i := 201) rfl) rfl
  | 7, _ => exact it_2 (List.mem_of_getElem? (i := 203) rfl) rfl
  | 8, _ => exact it_2 (List.mem_of_getElem? (i := 205) rfl) rfl
  | 9, _ => exact it_2 (List.mem_of_getElem? (i := 207) rfl) rfl
  | 10, _ => exact it_2 (List.mem_of_getElem? (i := 209) rfl) rfl
  | 11, _ => exact it_2 (List.mem_of_getElem? (i := 211) rfl) rfl
  | k + 12, hk => exact absurd hk (by omega)
theorem inX12 : ∀ w ∈ u_ws RX12 TX12 36, w ∈ TB := by
  intro w hw
  obtain ⟨k, hk, rfl⟩ := List.mem_map.mp hw
  have hk := List.mem_range.mp hk
  match k, hk with
  | 0, _ => exact it_5 (List.mem_of_getElem? (i := 146) rfl) rfl
  | 1, _ => exact it_5 (List.mem_of_getElem? (i := 148) rfl) rfl
  | 2, _ => exact it_5 (List.mem_of_getElem? (i := 150) rfl) rfl
  | 3, _ => exact it_5 (List.mem_of_getElem? (i := 152) rfl) rfl
  | 4, _ => exact it_5 (List.mem_of_getElem? (i := 154) rfl) rfl
  | 5, _ => exact it_5 (List.mem_of_getElem? (i := 156) rfl) rfl
  | 6, _ => exact it_5 (List.mem_of_getElem? (i := 158) rfl) rfl
  | 7, _ => exact it_5 (List.mem_of_getElem? (i := 160) rfl) rfl
  | 8, _ => exact it_5 (List.mem_of_getElem? (i := 162) rfl) rfl
  | 9, _ => exact it_5 (List.mem_of_getElem? (i := 164) rfl) rfl
  | 10, _ => exact it_5 (List.mem_of_getElem? (i := 166) rfl) rfl
  | 11, _ => exact it_5 (List.mem_of_getElem? (i := 168) rfl) rfl
  | 12, _ => exact it_5 (List.mem_of_getElem? (i := 170) rfl) rfl
  | 13, _ => exact it_5 (List.mem_of_getElem? (i := 172) rfl) rfl
  | 14, _ => exact it_5 (List.mem_of_getElem? (i := 174) rfl) rfl
  | 15, _ => exact it_5 (List.mem_of_getElem? (i := 176) rfl) rfl
  | 16, _ => exact it_5 (List.mem_of_getElem? (i := 178) rfl) rfl
  | 17, _ => exact it_5 (List.mem_of_getElem? (i := 180) rfl) rfl
  | 18, _ => exact it_5 (List.mem_of_getElem? (i := 182) rfl) rfl
  | 19, _ => exact it_5 (List.mem_of_getElem? (i := 184) rfl) rfl
  | 20, _ => exact it_5 (List.mem_of_getElem? (i := 186) rfl) rfl
  | 21, _ => exact it_5 (List.mem_of_getElem? (i := 188) rfl) rfl
  | 22, _ => exact it_5 (List.mem_of_getElem? (i := 190) rfl) rfl
  | 23, _ => exact it_5 (List.mem_of_getElem? (i := 192) rfl) rfl
  | 24, _ => exact it_5 (List.mem_of_getElem? (i := 194) rfl) rfl
  | 25, _ => exact it_5 (List.mem_of_getElem? (i := 196) rfl) rfl
  | 26, _ => exact it_5 (List.mem_of_getElem? (i := 198) rfl) rfl
  | 27, _ => exact it_5 (List.mem_of_getElem? (i := 200) rfl) rfl
  | 28, _ => exact it_5 (List.mem_of_getElem? (i := 202) rfl) rfl
  | 29, _ => exact it_5 (List.mem_of_getElem? (i := 204) rfl) rfl
  | 30, _ => exact it_5 (List.mem_of_getElem? (i := 206) rfl) rfl
  | 31, _ => exact it_5 (List.mem_of_getElem? (i := 208) rfl) rfl
  | 32, _ => exact it_5 (List.mem_of_getElem? (i := 210) rfl) rfl
  | 33, _ => exact it_5 (List.mem_of_getElem? (i := 212) rfl) rfl
  | 34, _ => exact it_5 (List.mem_of_getElem? (i := 214) rfl) rfl
  | 35, _ => exact it_5 (List.mem_of_getElem? (i := 216) rfl) rfl
  | k + 36, hk => exact absurd hk (by omega)
