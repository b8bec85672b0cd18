set_option maxRecDepth 1000000 in
theorem ok_Mo_puts : xa_okT xa_ms m_Mo_puts = true := by decide +kernel
set_option maxRecDepth 1000000 in
theorem ok_Mo_settles : xa_okT xa_ms m_Mo_settles = true := by decide +kernel
set_option maxRecDepth 1000000 in
theorem ok_Mo_bracket : xa_okT xa_ms m_Mo_bracket = true := by decide +kernel
set_option maxRecDepth 1000000 in
theorem ok_Mo_unit : xa_okT xa_ms m_Mo_unit = true := by decide +kernel
set_option maxRecDepth 1000000 in
theorem ok_Mo_wantsUnit : xa_okT xa_ms m_Mo_wantsUnit = true := by decide +kernel
set_option maxRecDepth 1000000 in
theorem ok_Mo_say : xa_okT xa_ms m_Mo_say = true := by decide +kernel
set_option maxRecDepth 1000000 in
theorem ok_Mo_many : xa_okT xa_ms m_Mo_many = true := by decide +kernel
set_option maxRecDepth 1000000 in
theorem ok_Mo_states : xa_okT xa_ms m_Mo_states = true := by decide +kernel
set_option maxRecDepth 1000000 in
theorem ok_Mo_arrow : xa_okT xa_ms m_Mo_arrow = true := by decide +kernel
set_option maxRecDepth 1000000 in
theorem ok_Mo_put : xa_okT xa_ms m_Mo_put = true := by decide +kernel
set_option maxRecDepth 1000000 in
theorem ok_Mo_isThere : xa_okT xa_ms m_Mo_isThere = true := by decide +kernel
set_option maxRecDepth 1000000 in
theorem ok_Mo_why : xa_okT xa_ms m_Mo_why = true := by decide +kernel
set_option maxRecDepth 1000000 in
theorem ok_Mo_goes : xa_okT xa_ms m_Mo_goes = true := by decide +kernel
set_option maxRecDepth 1000000 in
theorem ok_Mo_stricter : xa_okT xa_ms m_Mo_stricter = true := by decide +kernel
set_option maxRecDepth 1000000 in
theorem ok_Mo_stays : xa_okT xa_ms m_Mo_stays = true := by decide +kernel
set_option maxRecDepth 1000000 in
theorem ok_Mo_alike : xa_okT xa_ms m_Mo_alike = true := by decide +kernel
set_option maxRecDepth 1000000 in
theorem ok_Mo_smalls : xa_okT xa_ms m_Mo_smalls = true := by decide +kernel
set_option maxRecDepth 1000000 in
theorem ok_Mo_make : xa_okT xa_ms m_Mo_make = true := by decide +kernel
set_option maxRecDepth 1000000 in
theorem ok_Mo_isClash : xa_okT xa_ms m_Mo_isClash = true := by decide +kernel
set_option maxRecDepth 1000000 in
theorem ok_Mo_clash : xa_okT xa_ms m_Mo_clash = true := by decide +kernel
set_option maxRecDepth 1000000 in
theorem ok_Mo_join : xa_okT xa_ms m_Mo_join = true := by decide +kernel
set_option maxRecDepth 1000000 in
theorem ok_Mo_goingTo : xa_okT xa_ms m_Mo_goingTo = true := by decide +kernel
set_option maxRecDepth 1000000 in
theorem ok_Mo_values : xa_okT xa_ms m_Mo_values = true := by decide +kernel
set_option maxRecDepth 1000000 in
theorem ok_Mo_value : xa_okT xa_ms m_Mo_value = true := by decide +kernel
set_option maxRecDepth 1000000 in
theorem ok_Mo_how : xa_okT xa_ms m_Mo_how = true := by decide +kernel
set_option maxRecDepth 1000000 in
theorem ok_Mo_begin : xa_okT xa_ms m_Mo_begin = true := by decide +kernel
set_option maxRecDepth 1000000 in
theorem ok_Mo_onward : xa_okT xa_ms m_Mo_onward = true := by decide +kernel
set_option maxRecDepth 1000000 in
theorem ok_Mo_ones : xa_okT xa_ms m_Mo_ones = true := by decide +kernel
set_option maxRecDepth 1000000 in
theorem ok_Mo_go : xa_okT xa_ms m_Mo_go = true := by decide +kernel
set_option maxRecDepth 1000000 in
theorem ok_Mo_isSure : xa_okT xa_ms m_Mo_isSure = true := by decide +kernel
set_option maxRecDepth 1000000 in
theorem ok_Mo_walk : xa_okT xa_ms m_Mo_walk = true := by decide +kernel
set_option maxRecDepth 1000000 in
theorem ok_Mo_count : xa_okT xa_ms m_Mo_count = true := by decide +kernel
set_option maxRecDepth 1000000 in
theorem ok_Int_bitCount : xa_okT xa_ms m_Int_bitCount = true := by decide +kernel
set_option maxRecDepth 1000000 in
theorem ok_Str_length : xa_okT xa_ms m_Str_length = true := by decide +kernel
set_option maxRecDepth 1000000 in
theorem ok_Str_charAt : xa_okT xa_ms m_Str_charAt = true := by decide +kernel
set_option maxRecDepth 1000000 in
theorem ok_Str_indexOf : xa_okT xa_ms m_Str_indexOf = true := by decide +kernel
set_option maxRecDepth 1000000 in
theorem ok_Str_indexOf2 : xa_okT xa_ms m_Str_indexOf2 = true := by decide +kernel
set_option maxRecDepth 1000000 in
theorem ok_Str_coder : xa_okT xa_ms m_Str_coder = true := by decide +kernel
set_option maxRecDepth 1000000 in
theorem ok_Str_isLatin1 : xa_okT xa_ms m_Str_isLatin1 = true := by decide +kernel
set_option maxRecDepth 1000000 in
theorem ok_Str_checkIndex : xa_okT xa_ms m_Str_checkIndex = true := by decide +kernel
set_option maxRecDepth 1000000 in
theorem ok_Lat_charAt : xa_okT xa_ms m_Lat_charAt = true := by decide +kernel
set_option maxRecDepth 1000000 in
theorem ok_Lat_canEncode : xa_okT xa_ms m_Lat_canEncode = true := by decide +kernel
set_option maxRecDepth 1000000 in
theorem ok_Lat_indexOf : xa_okT xa_ms m_Lat_indexOf = true := by decide +kernel
set_option maxRecDepth 1000000 in
theorem ok_Lat_indexOfChar : xa_okT xa_ms m_Lat_indexOfChar = true := by decide +kernel
set_option maxRecDepth 1000000 in
theorem ok_Arr_fill : xa_okT xa_ms m_Arr_fill = true := by decide +kernel
set_option maxRecDepth 1000000 in
theorem ok_Pre_checkIndex : xa_okT xa_ms m_Pre_checkIndex = true := by decide +kernel
